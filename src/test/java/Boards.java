/** Boards, and texts that are nearly boards, by a fixed row of numbers. */
final class Boards {
    private long state;

    Boards(long seed) {
        state = seed * 0x9E3779B97F4A7C15L + 12345;
    }

    int below(int bound) {
        state = state * 6364136223846793005L + 1442695040888963407L;
        return (int) ((state >>> 33) % bound);
    }

    int among(int low, int high) {
        return low + below(high - low + 1);
    }

    private String text;

    String board() {
        int h = below(3) == 0 ? among(20, 200) : among(80, 200);
        int y = among(5, below(2) == 0 ? 12 : 50);
        text = "board ticks " + h + " cycle " + y + " low " + among(0, 9) + ";\n";
        int watchers = below(20) == 0 ? 0 : among(1, 3);
        for (int w = 0; w < watchers; w++) {
            text += w == 0 ? "watcher root;" : "watcher under " + below(w) + ";";
        }
        int tasks = watchers == 0 ? 0 : among(below(20) == 0 ? 0 : 1, below(3) == 0 ? 5 : 3);
        int[] sizes = new int[tasks];
        for (int t = 0; t < tasks; t++) {
            sizes[t] = task(watchers, y, tasks);
        }
        int told = among(0, below(3) == 0 ? 8 : 3);
        for (int i = 0; i < told; i++) {
            int kind = below(6);
            if (kind == 5 && watchers > 0) {
                text += "sleep " + below(watchers) + " tick " + (below(4) == 0 ? below(200) : below(60)) + ";";
            } else if (tasks > 0 && kind < 5) {
                int t = below(tasks);
                text += Model.KINDS[kind] + " " + t + " job " + (below(8) == 0 ? among(0, 50) : below(6))
                        + (kind == 4 ? "" : " node " + below(sizes[t])) + " times "
                        + (below(3) == 0 ? among(1, 9) : 1) + ";";
            }
        }
        return text;
    }

    private int task(int watchers, int y, int tasks) {
        int p = among(4, below(3) == 0 ? 60 : 25);
        int a = below(3) == 0 ? Math.min(99, among(0, p + 10)) : below(p);
        int b = Math.min(120, Math.max(a + 1, below(4) == 0 ? a + among(1, 15) : p + among(0, p)));
        int good = y / p;
        int l = Math.max(0, Math.min(20, good - among(below(5) == 0 ? -1 : 0, 2)));
        int m = Math.max(l, Math.min(40, good + among(0, 3)));
        if (below(3) == 0) {
            // windows wide enough to be lawful, now and then
            a = below(p);
            b = Math.min(120, p + among(p / 2, p + 20));
            l = 0;
            m = 40;
        }
        text += "task under " + below(watchers) + " period " + p + " open " + a + " close " + b + " least " + l
                + " most " + m + ";";
        int size = among(1, below(2) == 0 ? 6 : 3);
        for (int k = 0; k < size; k++) {
            text += "node " + among(1, tasks > 2 || size > 3 ? 2 : 5);
            if (k > 0) {
                text += " after";
                int from = below(k);
                for (int i = 0; i < k; i++) {
                    if (i == from || below(3) == 0) text += " " + i;
                }
            }
            text += ";";
        }
        return size;
    }

    /** A board's text with some of its signs or tokens put wrong. */
    String spoiled() {
        StringBuilder spoiled = new StringBuilder(board());
        int times = among(1, 3);
        for (int i = 0; i < times && spoiled.length() > 3; i++) {
            int at = below(spoiled.length());
            switch (below(9)) {
                case 0 -> spoiled.deleteCharAt(at);
                case 1 -> spoiled.insert(at, "0123456789;abc .\n\t\r?Z".charAt(below(21)));
                case 2 -> spoiled.setCharAt(at, (char) below(256));
                case 3 -> spoiled.setLength(at);
                case 4 -> spoiled.insert(at, " 0");
                case 5 -> spoiled.insert(spoiled.indexOf(";", at) + 1, lineAtRandom());
                case 6 -> {
                    int end = spoiled.indexOf(";", at);
                    if (end > at) spoiled.delete(at, end);
                }
                case 7 -> {
                    int end = spoiled.indexOf(";", at);
                    int more = spoiled.indexOf(";", end + 1);
                    if (end > 0 && more > end) spoiled.delete(end, more);
                }
                default -> spoiled.insert(at, among(0, 300));
            }
        }
        return spoiled.toString();
    }

    private String lineAtRandom() {
        String[] lines = {"board ticks 20 cycle 5 low 0;", "watcher root;", "watcher under " + below(4) + ";",
            "node " + below(11) + ";", "node 1 after " + below(6) + ";", "node 2 after 0 " + below(6) + ";",
            "task under " + below(3) + " period 9 open 1 close 12 least 0 most 3;", "sleep " + below(4) + " tick 3;",
            "hang " + below(6) + " job 1 node " + below(6) + " times 1;", "wrong 0 job 51 times 2;",
            "wrong 0 job 50 times 10;", ";", "hello;", "skip 0 job 0 node 0 times 0;", "slow", "times", "after 0"};
        return lines[below(lines.length)];
    }
}
