import java.util.ArrayList;
import java.util.Arrays;
import java.util.List;

/**
 * The document once more, told in another way than WatchStack does: from a text to lists, each
 * tick's state kept, with the whole Java library at hand. The tests compare the two.
 */
final class Model {
    static final String[] KINDS = {"hang", "stop", "skip", "slow", "wrong", "sleep"};

    int fault;
    int place = -1;
    int lines;
    int h;
    int y;
    int n;
    final List<Integer> over = new ArrayList<>();
    /** W P A B L M */
    final List<int[]> tasks = new ArrayList<>();
    /** per task, per node: units, then what it comes after */
    final List<List<int[]>> nodes = new ArrayList<>();
    /** kind who J K M */
    final List<int[]> injections = new ArrayList<>();
    int told;

    // ---------------------------------------------------------------- reading

    private record Token(char kind, String text, int place) { }

    private static final class Flaw extends RuntimeException {
        final int kind;
        final int place;

        Flaw(int kind, int place) {
            super(null, null, false, false);
            this.kind = kind;
            this.place = place;
        }
    }

    private List<Token> tokens;
    private int next;

    static Model of(String text) {
        Model model = new Model();
        try {
            model.read(text);
        } catch (Flaw flaw) {
            Model none = new Model();
            none.fault = flaw.kind;
            none.place = flaw.place;
            return none;
        }
        return model;
    }

    private static List<Token> split(String text) {
        List<Token> found = new ArrayList<>();
        int i = 0;
        while (i < text.length()) {
            char sign = text.charAt(i);
            int from = i++;
            if (sign == ' ' || sign == '\n') {
                continue;
            }
            if ("abcdefghijklmnopqrstuvwxyz".indexOf(sign) >= 0) {
                while (i < text.length() && "abcdefghijklmnopqrstuvwxyz".indexOf(text.charAt(i)) >= 0) i++;
                found.add(new Token('w', text.substring(from, i), from));
            } else if ("0123456789".indexOf(sign) >= 0) {
                while (i < text.length() && "0123456789".indexOf(text.charAt(i)) >= 0) i++;
                found.add(new Token('n', text.substring(from, i), from));
            } else {
                found.add(new Token(sign == ';' ? ';' : '?', "" + sign, from));
            }
        }
        found.add(new Token('$', "", text.length()));
        return found;
    }

    private Token peek() {
        return tokens.get(next);
    }

    private void word(String expected) {
        if (peek().kind != 'w' || !peek().text.equals(expected)) {
            throw new Flaw(1, peek().place);
        }
        next++;
    }

    private int number(int low, int high) {
        if (peek().kind != 'n') {
            throw new Flaw(1, peek().place);
        }
        java.math.BigInteger value = new java.math.BigInteger(peek().text);
        if (value.bitLength() > 30 || value.intValue() < low || value.intValue() > high) {
            throw new Flaw(2, peek().place);
        }
        next++;
        return value.intValue();
    }

    private int pair(String expected, int low, int high) {
        word(expected);
        return number(low, high);
    }

    private void limit(boolean full, int place) {
        if (full) {
            throw new Flaw(3, place);
        }
    }

    private void read(String text) {
        tokens = split(text);
        while (peek().kind != '$') {
            Token head = peek();
            if (head.kind != 'w' || head.text.equals("board") != (lines == 0)) {
                throw new Flaw(1, head.place);
            }
            next++;
            readLine(head);
            if (peek().kind != ';') {
                throw new Flaw(1, peek().place);
            }
            next++;
            lines++;
        }
        for (int t = 0; t < tasks.size(); t++) {
            if (nodes.get(t).isEmpty()) {
                throw new Flaw(4, t);
            }
        }
        told = injections.size();
    }

    private void readLine(Token head) {
        switch (head.text) {
            case "board" -> {
                h = pair("ticks", 20, 200);
                y = pair("cycle", 5, 50);
                n = pair("low", 0, 9);
            }
            case "watcher" -> {
                limit(over.size() == 3, head.place);
                if (over.isEmpty()) {
                    word("root");
                    over.add(-1);
                } else {
                    over.add(pair("under", 0, over.size() - 1));
                }
            }
            case "task" -> {
                limit(tasks.size() == 5, head.place);
                int w = pair("under", 0, over.size() - 1);
                int p = pair("period", 4, 60);
                int a = pair("open", 0, 99);
                int b = pair("close", a + 1, 120);
                int l = pair("least", 0, 20);
                int m = pair("most", l, 40);
                tasks.add(new int[] {w, p, a, b, l, m});
                nodes.add(new ArrayList<>());
            }
            case "node" -> readNode(head);
            case "hang", "stop", "skip", "slow", "wrong" -> {
                limit(injections.size() == 8, head.place);
                int kind = Arrays.asList(KINDS).indexOf(head.text);
                Token who = peek();
                int t = number(0, tasks.size() - 1);
                if (nodes.get(t).isEmpty()) {
                    throw new Flaw(2, who.place);
                }
                int j = pair("job", 0, 50);
                int k = kind == 4 ? -1 : pair("node", 0, nodes.get(t).size() - 1);
                injections.add(new int[] {kind, t, j, k, pair("times", 1, 9)});
            }
            case "sleep" -> {
                limit(injections.size() == 8, head.place);
                int w = number(0, over.size() - 1);
                injections.add(new int[] {5, w, pair("tick", 0, 199), -1, -1});
            }
            default -> throw new Flaw(1, head.place);
        }
    }

    private void readNode(Token head) {
        if (tasks.isEmpty()) {
            throw new Flaw(1, head.place);
        }
        List<int[]> mine = nodes.get(tasks.size() - 1);
        limit(mine.size() == 6, head.place);
        List<Integer> row = new ArrayList<>();
        row.add(number(1, 9));
        if (!mine.isEmpty()) {
            word("after");
            do {
                Token token = peek();
                int k = number(0, mine.size() - 1);
                if (row.subList(1, row.size()).contains(k)) {
                    throw new Flaw(2, token.place);
                }
                row.add(k);
            } while (peek().kind == 'n');
        }
        mine.add(row.stream().mapToInt(Integer::intValue).toArray());
    }

    Model copy() {
        Model other = new Model();
        other.lines = lines;
        other.h = h;
        other.y = y;
        other.n = n;
        other.told = told;
        other.over.addAll(over);
        for (int[] task : tasks) other.tasks.add(task.clone());
        other.nodes.addAll(nodes);
        for (int[] injection : injections) other.injections.add(injection.clone());
        return other;
    }

    // ---------------------------------------------------------------- flows

    List<Integer> successors(int t, int node) {
        List<Integer> found = new ArrayList<>();
        List<int[]> mine = nodes.get(t);
        for (int s = 0; s < mine.size(); s++) {
            for (int i = 1; i < mine.get(s).length; i++) {
                if (mine.get(s)[i] == node) found.add(s);
            }
        }
        return found;
    }

    List<List<Integer>> ways(int t) {
        List<List<Integer>> found = new ArrayList<>();
        grow(t, new ArrayList<>(List.of(0)), found);
        return found;
    }

    private void grow(int t, List<Integer> way, List<List<Integer>> found) {
        List<Integer> on = successors(t, way.get(way.size() - 1));
        if (on.isEmpty()) {
            found.add(new ArrayList<>(way));
        }
        for (int s : on) {
            way.add(s);
            grow(t, way, found);
            way.remove(way.size() - 1);
        }
    }

    List<Integer> way(int t, int job) {
        List<Integer> found = new ArrayList<>(List.of(0));
        while (true) {
            List<Integer> on = successors(t, found.get(found.size() - 1));
            if (on.isEmpty()) return found;
            found.add(on.get(job % on.size()));
        }
    }

    static int answer(List<Integer> way, int question) {
        int answer = question;
        for (int node : way) answer = (5 * answer + node + 1) % 64;
        return answer;
    }

    int cost(int t, boolean longest) {
        var units = ways(t).stream().mapToInt(w -> w.stream().mapToInt(k -> nodes.get(t).get(k)[0]).sum());
        return longest ? units.max().getAsInt() : units.min().getAsInt();
    }

    int alike(int t, int question) {
        List<List<Integer>> all = ways(t);
        int pairs = 0;
        for (int i = 0; i < all.size(); i++) {
            for (int k = 0; k < i; k++) {
                if (answer(all.get(i), question) == answer(all.get(k), question)) pairs++;
            }
        }
        return pairs;
    }

    // ---------------------------------------------------------------- law

    int response(List<Integer> ahead, int t, int rich, int extra) {
        int own = cost(t, true) + (t == rich ? extra : 0);
        for (int r = own; r <= tasks.get(t)[1]; r++) {
            int sum = own;
            for (int u : ahead) {
                sum += (int) Math.ceil(r / (double) tasks.get(u)[1]) * (cost(u, true) + (u == rich ? extra : 0));
            }
            if (sum == r) return r;
        }
        return -1;
    }

    int[] bounds(List<Integer> ahead, int t, int rich, int extra) {
        int r = response(ahead, t, rich, extra);
        if (r < 0) return null;
        int spread = r - cost(t, false) - (t == rich ? extra : 0);
        int p = tasks.get(t)[1];
        int l = y < spread ? 0 : (y - spread) / p;
        int m = (int) Math.ceil((y + spread) / (double) p);
        return new int[] {p - spread, p + spread, l, m};
    }

    boolean lawful(List<Integer> ahead, int t, int rich, int extra) {
        int[] bound = bounds(ahead, t, rich, extra);
        int[] own = tasks.get(t);
        return bound != null && own[2] <= bound[0] && own[3] >= bound[1] && own[4] <= bound[2] && own[5] >= bound[3];
    }

    static List<Integer> below(int t) {
        List<Integer> found = new ArrayList<>();
        for (int u = 0; u < t; u++) found.add(u);
        return found;
    }

    int lawful(int rich, int extra) {
        int bits = 0;
        for (int t = 0; t < tasks.size(); t++) {
            if (lawful(below(t), t, rich, extra)) bits |= 1 << t;
        }
        return bits;
    }

    int room(int t) {
        int now = lawful(-1, 0);
        int best = 0;
        for (int extra = 0; extra <= 50; extra++) {
            if ((lawful(t, extra) & now) == now) best = extra;
        }
        return best;
    }

    List<List<Integer>> orders() {
        List<List<Integer>> found = new ArrayList<>();
        orders(new ArrayList<>(), found);
        return found;
    }

    private void orders(List<Integer> ahead, List<List<Integer>> found) {
        if (ahead.size() == tasks.size()) {
            found.add(new ArrayList<>(ahead));
        }
        for (int t = 0; t < tasks.size(); t++) {
            if (!ahead.contains(t) && lawful(ahead, t, -1, 0)) {
                ahead.add(t);
                orders(ahead, found);
                ahead.remove(ahead.size() - 1);
            }
        }
    }

    float load() {
        float sum = 0;
        for (int t = 0; t < tasks.size(); t++) sum += (float) cost(t, true) / (float) tasks.get(t)[1];
        return sum;
    }

    // ---------------------------------------------------------------- the run

    /** What a task was as a tick began. */
    record Then(int at, int question, int start, int memory, float health, int jobs, int kicks, int kicked,
            List<Float> margins) { }

    final class Sim {
        final Then[][] then = new Then[tasks.size()][h + 1];
        final int[][] asleep = new int[over.size()][h + 1];
        final int[] had = new int[h];
        final List<int[]> records = new ArrayList<>();
        final List<List<Integer>> gaps = new ArrayList<>();
        final List<List<Integer>> begins = new ArrayList<>();
        int halt = -1;

        private final int count = tasks.size();
        private final int[] start = new int[count];
        private final int[] question = new int[count];
        private final int[] memory = new int[count];
        private final int[] well = new int[count];
        private final float[] health = new float[count];
        private final List<List<Integer>> kickTicks = new ArrayList<>();
        private final List<List<Float>> margins = new ArrayList<>();
        private final List<List<Integer>> sinceStart = new ArrayList<>();
        /** the nodes that a job still goes through, each tick's node once; null: none is going on */
        private final List<List<Integer>> ahead = new ArrayList<>();
        private final boolean[] stopped = new boolean[count];
        private final boolean[] sleeping = new boolean[over.size()];
        private final boolean[] slept = new boolean[over.size()];
        private int resets;
        private boolean over3;

        Sim() {
            for (int t = 0; t < count; t++) {
                question[t] = 1;
                health[t] = 1;
                kickTicks.add(new ArrayList<>());
                margins.add(new ArrayList<>());
                sinceStart.add(new ArrayList<>());
                ahead.add(null);
                gaps.add(new ArrayList<>());
                begins.add(new ArrayList<>());
            }
            for (int tick = 0; tick <= h; tick++) {
                for (int[] i : injections) if (i[0] == 5 && i[2] == tick) sleeping[i[1]] = true;
                keep(tick);
                if (tick < h) {
                    had[tick] = -1;
                    if (halt < 0) live(tick);
                }
            }
        }

        private void keep(int tick) {
            for (int t = 0; t < count; t++) {
                List<Integer> kicks = kickTicks.get(t);
                then[t][tick] = new Then(ahead.get(t) == null ? -1 : ahead.get(t).get(0), question[t], start[t],
                        memory[t], health[t], begins.get(t).size(), kicks.size(),
                        kicks.isEmpty() ? -1 : kicks.get(kicks.size() - 1), new ArrayList<>(margins.get(t)));
            }
            for (int w = 0; w < over.size(); w++) asleep[w][tick] = sleeping[w] ? 1 : 0;
        }

        /** The first injection of hang .. slow at a node of a job. */
        private int change(int t, int job, int node) {
            for (int[] i : injections) {
                if (i[0] < 4 && i[1] == t && i[2] <= job && job <= i[2] + i[4] - 1 && i[3] == node) return i[0];
            }
            return -1;
        }

        /** A job told ahead of time as the nodes it takes ticks in; a hang or a stop is its last one. */
        private List<Integer> steps(int t, int job) {
            List<Integer> found = new ArrayList<>();
            for (int node : way(t, job)) {
                int change = change(t, job, node);
                int units = nodes.get(t).get(node)[0] * (change == 3 ? 2 : 1);
                for (int i = 0; i < units; i++) found.add(node);
                if (change >= 0 && change <= 2) break;
            }
            return found;
        }

        private void live(int tick) {
            over3 = false;
            for (int t = 0; t < count; t++) {
                if (ahead.get(t) == null && tick >= start[t] && tick % tasks.get(t)[1] == 0) {
                    ahead.set(t, steps(t, begins.get(t).size()));
                    begins.get(t).add(tick);
                }
            }
            for (int t = 0; t < count; t++) {
                if (ahead.get(t) != null) {
                    int job = begins.get(t).size() - 1;
                    int node = ahead.get(t).get(0);
                    int change = change(t, job, node);
                    if (change == 1) continue;
                    had[tick] = t;
                    if (change == 0) break;
                    ahead.get(t).remove(0);
                    if (ahead.get(t).isEmpty()) {
                        ahead.set(t, null);
                        kick(tick, t, job, change == 2 && !successors(t, node).isEmpty());
                    }
                    break;
                }
            }
            for (int t = 0; t < count && !over3; t++) {
                List<Integer> since = sinceStart.get(t);
                int latest = since.isEmpty() ? start[t] - 1 : since.get(since.size() - 1);
                if (tick >= start[t] && tick >= latest + tasks.get(t)[3]) taskFault(tick, 2, t);
            }
            if (tick % y == y - 1 && !over3) endCycle(tick);
        }

        private void kick(int tick, int t, int job, boolean badFlow) {
            List<Integer> since = sinceStart.get(t);
            boolean first = since.isEmpty();
            int gap = first ? tick - start[t] + 1 : tick - since.get(since.size() - 1);
            boolean badAnswer = false;
            for (int[] i : injections) {
                if (i[0] == 4 && i[1] == t && i[2] <= job && job < i[2] + i[4]) badAnswer = true;
            }
            if (badFlow) {
                taskFault(tick, 3, t);
            } else if (badAnswer) {
                taskFault(tick, 4, t);
            } else if (!first && gap < tasks.get(t)[2]) {
                taskFault(tick, 1, t);
            } else {
                question[t] = (question[t] * 13 + 7) % 64;
                health[t] = health[t] + (1 - health[t]) * 0.25f;
                gaps.get(t).add(gap);
                kickTicks.get(t).add(tick);
                since.add(tick);
                int a = tasks.get(t)[2];
                int b = tasks.get(t)[3];
                if (!first) margins.get(t).add((float) (b - gap) / (float) (b - a));
            }
        }

        private void endCycle(int tick) {
            int from = tick - y + 1;
            boolean[] looked = new boolean[over.size()];
            for (int w = over.size() - 1; w >= 0; w--) {
                looked[w] = !sleeping[w];
                if (!looked[w]) continue;
                for (int t = 0; t < count; t++) {
                    int good = 0;
                    for (int k : kickTicks.get(t)) if (k >= from) good++;
                    int[] own = tasks.get(t);
                    if (own[0] == w && start[t] <= from && (good < own[4] || good > own[5])) {
                        taskFault(tick, 5, t);
                        if (over3) return;
                    }
                }
                for (int v = 0; v < over.size(); v++) {
                    if (over.get(v) == w && !looked[v]) {
                        int level = slept[v] ? 3 : 2;
                        slept[v] = true;
                        records.add(new int[] {tick, 6, v, level});
                        if (level == 2) resetWatcher(tick, v);
                        else resetBoard(tick);
                        if (over3) return;
                    }
                }
            }
            if (!over.isEmpty() && !looked[0]) {
                records.add(new int[] {tick, 7, 0, 3});
                resetBoard(tick);
                return;
            }
            for (int t = 0; t < count; t++) {
                boolean ill = false;
                for (int[] r : records) if (r[1] <= 5 && r[2] == t && r[0] >= from) ill = true;
                if (!ill && memory[t] > 0 && ++well[t] == 3) {
                    well[t] = 0;
                    memory[t]--;
                }
            }
        }

        private void taskFault(int tick, int kind, int t) {
            memory[t]++;
            health[t] = health[t] / 2;
            well[t] = 0;
            int level = Math.min(3, memory[t] - 1 + (health[t] < n / 10f ? 1 : 0));
            records.add(new int[] {tick, kind, t, level});
            int w = tasks.get(t)[0];
            if (level == 0) restart(tick, t);
            if (level == 1) for (int u = 0; u < count; u++) if (tasks.get(u)[0] == w) restart(tick, u);
            if (level == 2) resetWatcher(tick, w);
            if (level == 3) resetBoard(tick);
        }

        private boolean under(int w, int top) {
            return w == top || (w > 0 && under(over.get(w), top));
        }

        private void resetWatcher(int tick, int top) {
            for (int t = 0; t < count; t++) if (under(tasks.get(t)[0], top)) restart(tick, t);
            for (int w = 0; w < over.size(); w++) if (under(w, top)) sleeping[w] = false;
        }

        private void resetBoard(int tick) {
            for (int t = 0; t < count; t++) restart(tick, t);
            Arrays.fill(sleeping, false);
            over3 = true;
            if (++resets == 3) halt = tick;
        }

        private void restart(int tick, int t) {
            ahead.set(t, null);
            question[t] = 1;
            sinceStart.get(t).clear();
            do tick++; while (tick % tasks.get(t)[1] != 0);
            start[t] = tick;
        }

        int caught(int[] injection) {
            int from;
            if (injection[0] == 5) {
                from = injection[2];
            } else {
                List<Integer> begun = begins.get(injection[1]);
                if (begun.size() <= injection[2]) return -1;
                from = begun.get(injection[2]);
            }
            for (int[] r : records) {
                if (r[0] >= from && r[2] == injection[1] && (r[1] > 5) == (injection[0] == 5)) return r[0] - from;
            }
            return -1;
        }
    }

    Sim run() {
        return new Sim();
    }

    int recordsWithout(int i) {
        Model other = copy();
        other.injections.remove(i);
        return other.run().records.size();
    }

    int recordsWith(int t, int a, int b) {
        Model other = copy();
        other.tasks.get(t)[2] = a;
        other.tasks.get(t)[3] = b;
        return other.run().records.size();
    }

    /** The greatest caught() of one injection more, and how many are NONE. */
    int[] probe(int t, int kind) {
        int[] found = {-1, 0};
        List<Integer> begun = run().begins.get(t);
        for (int job = 0; job < begun.size() && job <= 50; job++) {
            for (int k = 0; k < (kind == 4 ? 1 : nodes.get(t).size()); k++) {
                Model other = copy();
                int[] more = {kind, t, job, kind == 4 ? -1 : k, 1};
                other.injections.add(more);
                int caught = other.run().caught(more);
                if (caught < 0) found[1]++;
                found[0] = Math.max(found[0], caught);
            }
        }
        return found;
    }
}
