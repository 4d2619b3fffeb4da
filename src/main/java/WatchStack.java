/**
 * A stack of watchdogs on a board: what its tasks do, what its watchers catch, and what would be
 * otherwise. The document ../shared/DOC.md tells what each call answers.
 */
public final class WatchStack {
    public static final int NONE = -1;

    private static final int NO_SUCH = -2;
    private static final int FAULTY = -4;
    private static final int REFUSED = -5;
    private static final int EMPTY = -6;

    private static final int MAX_TICKS = 200;
    private static final int MAX_WATCHERS = 3;
    private static final int MAX_TASKS = 5;
    private static final int MAX_NODES = 6;
    private static final int MAX_TOLD = 8;
    private static final int MAX_ACTS = 10;
    private static final int MAX_JOB = 50;
    private static final int MAX_SLEEP = 199;
    private static final int MAX_TIMES = 9;
    private static final int MAX_OPEN = 99;
    private static final int MAX_CLOSE = 120;
    private static final int MAX_ROOM = 50;
    private static final int IMAGES = 3;
    private static final int ANSWERS = 64;

    private static final int HANG = 0;
    private static final int STOP = 1;
    private static final int SKIP = 2;
    private static final int SLOW = 3;
    private static final int WRONG = 4;
    private static final int SLEEP = 5;

    private final BoardReader reader = new BoardReader();
    private final Board current = new Board();
    private final Board[] images = new Board[IMAGES];
    private final boolean[] kept = new boolean[IMAGES];
    private final Flow flow = new Flow();
    private final Law law = new Law();
    private final Run whole = new Run();
    private final Run view = new Run();
    private final Trials trials = new Trials();

    public WatchStack() {
        for (int k = 0; k < IMAGES; k++) {
            images[k] = new Board();
        }
    }

    public int feed(int a, int b, int c, int d, int e) {
        return reader.tape.append(a, b, c, d, e);
    }

    public int end(int n) {
        return reader.tape.cut(n);
    }

    public int board() {
        boolean sound = reader.readTape();
        reader.tape.cut(0);
        if (!sound) {
            return FAULTY;
        }
        current.copyFrom(reader.board);
        refresh();
        return current.lines;
    }

    public int fault(int what) {
        if (what == 0) {
            return reader.flaw;
        }
        return what == 1 ? reader.place : NONE;
    }

    public int task(int task, int what) {
        if (!current.hasTask(task) || what < 0 || what >= Board.TRAITS) {
            return NO_SUCH;
        }
        return current.traits[task][what];
    }

    public int node(int task, int node, int what) {
        if (!current.hasNode(task, node) || what < 0 || what > 1) {
            return NO_SUCH;
        }
        return what == 0 ? current.units[task][node] : current.followers[task][node];
    }

    public int watcher(int watcher) {
        return current.hasWatcher(watcher) ? current.over[watcher] : NO_SUCH;
    }

    public int injection(int injection, int what) {
        if (!current.hasInjection(injection) || what < 0 || what >= Board.PARTS) {
            return NO_SUCH;
        }
        return current.injections[injection][what];
    }

    public int cost(int task, int what) {
        if (!current.hasTask(task) || what < 0 || what > 1) {
            return NO_SUCH;
        }
        return current.costs[task][what];
    }

    public int ways(int task) {
        return current.hasTask(task) ? flow.countWays(current, task) : NO_SUCH;
    }

    public int response(int task) {
        if (!current.hasTask(task)) {
            return NO_SUCH;
        }
        law.lineUp(current.tasks);
        return law.responseAt(current, task);
    }

    public int least(int task, int what) {
        if (!current.hasTask(task) || what < 0 || what > 3) {
            return NO_SUCH;
        }
        int longestWait = response(task);
        if (longestWait == NONE) {
            return NONE;
        }
        return Law.limit(current, task, longestWait - current.costs[task][Board.SHORTEST], what);
    }

    public int room(int task) {
        if (!current.hasTask(task)) {
            return NO_SUCH;
        }
        return law.roomOf(current, task);
    }

    public int orders() {
        return current.lines == 0 ? NO_SUCH : law.countOrders(current);
    }

    public int order(int i) {
        if (current.lines == 0) {
            return NO_SUCH;
        }
        if (!current.hasTask(i) || !law.findOrder(current)) {
            return NONE;
        }
        return law.order[i];
    }

    public int path(int task, int job, int i) {
        if (!current.hasTask(task) || !isJob(job) || i < 0) {
            return NO_SUCH;
        }
        return Flow.nodeOnWay(current, task, job, i);
    }

    public int answer(int task, int job, int question) {
        if (!current.hasTask(task) || !isJob(job) || !isQuestion(question)) {
            return NO_SUCH;
        }
        return Flow.answerOf(current, task, job, question);
    }

    public int alike(int task, int question) {
        if (!current.hasTask(task) || !isQuestion(question)) {
            return NO_SUCH;
        }
        return flow.countPairs(current, task, question);
    }

    public int lawful() {
        return current.lines == 0 ? NO_SUCH : law.lawfulBits(current);
    }

    public int load() {
        return current.lines == 0 ? NO_SUCH : bitsOfFloat(Law.loadOf(current));
    }

    public int had(int tick) {
        if (tick < 0 || tick >= current.ticks) {
            return NO_SUCH;
        }
        view.show(tick + 1);
        return view.latestOwner;
    }

    public int idle(int tick) {
        if (!isTick(tick)) {
            return NO_SUCH;
        }
        view.show(tick);
        return view.idleTicks;
    }

    public int kicks(int task, int tick) {
        return isTaskAndTick(task, tick) ? stateOf(task, tick).goodKicks : NO_SUCH;
    }

    public int kicked(int task, int tick) {
        return isTaskAndTick(task, tick) ? stateOf(task, tick).latestGood : NO_SUCH;
    }

    public int gap(int task, int k) {
        if (!current.hasTask(task) || k < 0) {
            return NO_SUCH;
        }
        return whole.gapOfKick(task, k);
    }

    public int jobs(int task, int tick) {
        return isTaskAndTick(task, tick) ? stateOf(task, tick).begun : NO_SUCH;
    }

    public int at(int task, int tick) {
        return isTaskAndTick(task, tick) ? stateOf(task, tick).place : NO_SUCH;
    }

    public int question(int task, int tick) {
        return isTaskAndTick(task, tick) ? stateOf(task, tick).asked : NO_SUCH;
    }

    public int start(int task, int tick) {
        return isTaskAndTick(task, tick) ? stateOf(task, tick).from : NO_SUCH;
    }

    public int memory(int task, int tick) {
        return isTaskAndTick(task, tick) ? stateOf(task, tick).caughtTimes : NO_SUCH;
    }

    public int health(int task, int tick) {
        return isTaskAndTick(task, tick) ? bitsOfFloat(stateOf(task, tick).fitness) : NO_SUCH;
    }

    public int tenths(int task, int tick) {
        return isTaskAndTick(task, tick) ? (int) (stateOf(task, tick).fitness * 10f) : NO_SUCH;
    }

    public int margin(int task, int tick) {
        if (!isTaskAndTick(task, tick)) {
            return NO_SUCH;
        }
        TaskState state = stateOf(task, tick);
        return state.margins == 0 ? NONE : bitsOfFloat(state.leastMargin);
    }

    public long mean(int task, int tick) {
        if (!isTaskAndTick(task, tick)) {
            return NO_SUCH;
        }
        TaskState state = stateOf(task, tick);
        return state.margins == 0 ? NONE : bitsOfDouble(state.marginSum / (double) state.margins);
    }

    public int faults(int tick) {
        return isTick(tick) ? whole.records.countAhead(tick) : NO_SUCH;
    }

    public int record(int k, int what) {
        if (current.lines == 0 || k < 0 || what < 0 || what >= Records.PARTS) {
            return NO_SUCH;
        }
        return k < whole.records.size ? whole.records.rows[k][what] : NONE;
    }

    public int ledger(int which) {
        if (current.lines == 0 || which < 0 || which > 1) {
            return NO_SUCH;
        }
        int ofWatchers = whole.records.countKind(Records.ASLEEP) + whole.records.countKind(Records.DOG);
        return which == 1 ? ofWatchers : whole.records.size - ofWatchers;
    }

    public int kinds(int kind) {
        if (current.lines == 0 || kind < Records.EARLY || kind > Records.DOG) {
            return NO_SUCH;
        }
        return whole.records.countKind(kind);
    }

    public int levels(int level, int tick) {
        if (!isTick(tick) || level < 0 || level > Run.TOP_LEVEL) {
            return NO_SUCH;
        }
        return whole.records.countLevelAhead(level, tick);
    }

    public int halts() {
        return current.lines == 0 ? NO_SUCH : whole.haltTick;
    }

    public int sleeps(int watcher, int tick) {
        if (!current.hasWatcher(watcher) || !isTick(tick)) {
            return NO_SUCH;
        }
        view.show(tick);
        return view.isAsleep(watcher) ? 1 : 0;
    }

    public int caught(int injection) {
        return current.hasInjection(injection) ? whole.delayOf(injection) : NO_SUCH;
    }

    public int without(int injection) {
        return current.hasInjection(injection) ? trials.recordsLacking(current, injection) : NO_SUCH;
    }

    public int blame() {
        if (current.lines == 0) {
            return NO_SUCH;
        }
        int worst = NONE;
        int fewest = whole.records.size;
        for (int i = 0; i < current.told + current.acts; i++) {
            int left = trials.recordsLacking(current, i);
            if (left < fewest) {
                fewest = left;
                worst = i;
            }
        }
        return worst;
    }

    public int with(int task, int a, int b) {
        if (!current.hasTask(task) || a < 0 || a > MAX_OPEN || b <= a || b > MAX_CLOSE) {
            return NO_SUCH;
        }
        return trials.recordsWindowed(current, task, a, b);
    }

    public int tight(int task) {
        if (!current.hasTask(task)) {
            return NO_SUCH;
        }
        int open = current.traits[task][Board.OPEN];
        int close = current.traits[task][Board.CLOSE];
        int b = open + 1;
        while (b < close && trials.recordsWindowed(current, task, open, b) > whole.records.size) {
            b++;
        }
        return b;
    }

    public int loose(int task) {
        if (!current.hasTask(task)) {
            return NO_SUCH;
        }
        int open = current.traits[task][Board.OPEN];
        int close = current.traits[task][Board.CLOSE];
        int a = Math.min(close - 1, MAX_OPEN);
        while (a > open && trials.recordsWindowed(current, task, a, close) > whole.records.size) {
            a--;
        }
        return a;
    }

    public int longest(int task, int kind) {
        if (!current.hasTask(task) || kind < HANG || kind > WRONG) {
            return NO_SUCH;
        }
        trials.probe(whole, view, task, kind);
        return trials.greatestDelay[task][kind];
    }

    public int silent(int task, int kind) {
        if (!current.hasTask(task) || kind < HANG || kind > WRONG) {
            return NO_SUCH;
        }
        trials.probe(whole, view, task, kind);
        return trials.uncaught[task][kind];
    }

    public int inject(int kind, int who, int j, int k, int m) {
        if (!current.allows(kind, who, j, k, m)) {
            return NO_SUCH;
        }
        if (current.acts >= MAX_ACTS) {
            return REFUSED;
        }
        current.setInjection(current.told + current.acts, kind, who, j, k, m);
        current.acts++;
        refresh();
        return whole.records.size;
    }

    public int undo() {
        if (current.lines == 0) {
            return NO_SUCH;
        }
        if (current.acts == 0) {
            return REFUSED;
        }
        current.acts--;
        refresh();
        return current.acts;
    }

    public int anew() {
        if (current.lines == 0) {
            return NO_SUCH;
        }
        int taken = current.acts;
        current.acts = 0;
        refresh();
        return taken;
    }

    public int count(int what) {
        switch (what) {
            case 0: return current.ticks;
            case 1: return current.cycle;
            case 2: return current.low;
            case 3: return current.watchers;
            case 4: return current.tasks;
            case 5: return current.told;
            case 6: return current.acts;
            case 7: return current.lines;
            case 8: return reader.tape.size;
            default: return NONE;
        }
    }

    public int image(int k) {
        if (k < 0 || k >= IMAGES) {
            return NO_SUCH;
        }
        images[k].copyFrom(current);
        kept[k] = true;
        return 0;
    }

    public int back(int k) {
        if (k < 0 || k >= IMAGES) {
            return NO_SUCH;
        }
        if (!kept[k]) {
            return EMPTY;
        }
        current.copyFrom(images[k]);
        refresh();
        return 0;
    }

    /** Every change of the board or of its acts comes by here. */
    private void refresh() {
        whole.board.copyFrom(current);
        whole.reset();
        whole.show(current.ticks);
        view.board.copyFrom(current);
        view.reset();
        trials.forget();
    }

    private boolean isTick(int tick) {
        return current.lines > 0 && tick >= 0 && tick <= current.ticks;
    }

    private boolean isTaskAndTick(int task, int tick) {
        return current.hasTask(task) && isTick(tick);
    }

    private TaskState stateOf(int task, int tick) {
        view.show(tick);
        return view.states[task];
    }

    private static boolean isJob(int job) {
        return job >= 0 && job <= MAX_JOB;
    }

    private static boolean isQuestion(int question) {
        return question >= 0 && question < ANSWERS;
    }

    private static boolean divides(int divisor, int number) {
        return divisor > 0 && number % divisor == 0;
    }

    private static int divideCut(int number, int divisor) {
        return divisor > 0 ? number / divisor : 0;
    }

    private static int divideUp(int number, int divisor) {
        return divisor > 0 ? (number + divisor - 1) / divisor : 0;
    }

    /** What floatToIntBits answers for a number that is not below 0 (the language has no such call). */
    private static int bitsOfFloat(float number) {
        if (!(number > 0f)) {
            return 0;
        }
        float rest = number;
        int exponent = 127;
        for (int i = 0; i < 128 && rest >= 2f; i++) {
            rest = rest / 2f;
            exponent++;
        }
        for (int i = 0; i < 126 && rest < 1f; i++) {
            rest = rest * 2f;
            exponent--;
        }
        if (rest < 1f) {
            return (int) (rest * 8388608f);
        }
        return (exponent << 23) + (int) ((rest - 1f) * 8388608f);
    }

    /** What doubleToLongBits answers for a number that is not below 0. */
    private static long bitsOfDouble(double number) {
        if (!(number > 0.0)) {
            return 0L;
        }
        double rest = number;
        long exponent = 1023L;
        for (int i = 0; i < 1024 && rest >= 2.0; i++) {
            rest = rest / 2.0;
            exponent++;
        }
        for (int i = 0; i < 1022 && rest < 1.0; i++) {
            rest = rest * 2.0;
            exponent--;
        }
        if (rest < 1.0) {
            return (long) (rest * 4503599627370496.0);
        }
        return (exponent << 52) + (long) ((rest - 1.0) * 4503599627370496.0);
    }

    /** The bytes that were fed, and the token at which their reading stands. */
    private static final class Tape {
        static final int WORD = 0;
        static final int NUMBER = 1;
        static final int SIGN = 2;
        static final int STRANGE = 3;
        static final int OVER = 4;
        private static final int BLANK = 5;
        static final int LENGTH = 1000;
        // above every bound of the document, so that a long number stays out of bounds
        private static final int HUGE = 100000;

        final int[] bytes = new int[LENGTH];
        int size;
        int kind = OVER;
        int place;
        int behind;
        int value;

        int append(int a, int b, int c, int d, int e) {
            if (size + 20 > LENGTH) {
                return NONE;
            }
            put(a);
            put(b);
            put(c);
            put(d);
            put(e);
            return size;
        }

        private void put(int number) {
            for (int shift = 24; shift >= 0 && size < LENGTH; shift -= 8) {
                bytes[size] = (number >>> shift) & 255;
                size++;
            }
        }

        int cut(int n) {
            if (n < 0 || n > size) {
                return NONE;
            }
            size = n;
            return n;
        }

        void rewind() {
            behind = 0;
            advance();
        }

        void advance() {
            while (behind < size && kindAt(behind) == BLANK) {
                behind++;
            }
            place = behind;
            value = 0;
            kind = kindAt(behind);
            if (kind == SIGN || kind == STRANGE) {
                behind++;
            }
            while (behind < size && kind == WORD && kindAt(behind) == WORD) {
                behind++;
            }
            while (behind < size && kind == NUMBER && kindAt(behind) == NUMBER) {
                value = value >= HUGE ? HUGE : value * 10 + bytes[behind] - '0';
                behind++;
            }
        }

        private int kindAt(int i) {
            if (i < 0 || i >= size) {
                return OVER;
            }
            int sign = bytes[i];
            if (sign >= 'a' && sign <= 'z') {
                return WORD;
            }
            if (sign >= '0' && sign <= '9') {
                return NUMBER;
            }
            if (sign == 32 || sign == 10) {
                return BLANK;
            }
            return sign == ';' ? SIGN : STRANGE;
        }

        boolean isWord(String word) {
            if (kind != WORD || behind - place != word.length()) {
                return false;
            }
            for (int i = 0; i < word.length(); i++) {
                if (bytes[place + i] != word.charAt(i)) {
                    return false;
                }
            }
            return true;
        }
    }

    /** Reads the tape into a board of its own; keeps the first flaw and its place. */
    private static final class BoardReader {
        private static final int BAD_TOKEN = 1;
        private static final int BAD_NUMBER = 2;
        private static final int TOO_MANY = 3;
        private static final int NO_NODE = 4;

        final Tape tape = new Tape();
        final Board board = new Board();
        int flaw;
        int place = NONE;
        private final int[] got = new int[6];

        boolean readTape() {
            board.clear();
            flaw = 0;
            place = NONE;
            tape.rewind();
            for (int i = 0; i < Tape.LENGTH && flaw == 0 && tape.kind != Tape.OVER; i++) {
                if (readLine()) {
                    board.lines++;
                }
            }
            if (flaw == 0) {
                findTaskWithoutNode();
            }
            if (flaw == 0) {
                board.measureTasks();
            }
            return flaw == 0;
        }

        private boolean fail(int kind) {
            flaw = kind;
            place = tape.place;
            return false;
        }

        private void findTaskWithoutNode() {
            for (int task = 0; task < board.tasks && flaw == 0; task++) {
                if (board.traits[task][Board.NODES] == 0) {
                    flaw = NO_NODE;
                    place = task;
                }
            }
        }

        private boolean readLine() {
            boolean opens = tape.isWord("board");
            if (opens != (board.lines == 0)) {
                return fail(BAD_TOKEN);
            }
            if (opens) {
                return readBoard();
            }
            if (tape.isWord("watcher")) {
                return readWatcher();
            }
            if (tape.isWord("task")) {
                return readTask();
            }
            if (tape.isWord("node")) {
                return readNode();
            }
            return readInjection(injectionKind());
        }

        private int injectionKind() {
            if (tape.isWord("hang")) {
                return HANG;
            }
            if (tape.isWord("stop")) {
                return STOP;
            }
            if (tape.isWord("skip")) {
                return SKIP;
            }
            if (tape.isWord("slow")) {
                return SLOW;
            }
            if (tape.isWord("wrong")) {
                return WRONG;
            }
            return tape.isWord("sleep") ? SLEEP : NONE;
        }

        private boolean readBoard() {
            tape.advance();
            if (!readPair("ticks", 20, MAX_TICKS, 0) || !readPair("cycle", 5, 50, 1)
                    || !readPair("low", 0, 9, 2) || !readEnd()) {
                return false;
            }
            board.ticks = got[0];
            board.cycle = got[1];
            board.low = got[2];
            return true;
        }

        private boolean readWatcher() {
            if (board.watchers >= MAX_WATCHERS) {
                return fail(TOO_MANY);
            }
            tape.advance();
            got[0] = NONE;
            boolean placed = board.watchers == 0
                    ? readWord("root") : readPair("under", 0, board.watchers - 1, 0);
            if (!placed || !readEnd()) {
                return false;
            }
            board.addWatcher(got[0]);
            return true;
        }

        private boolean readTask() {
            if (board.tasks >= MAX_TASKS) {
                return fail(TOO_MANY);
            }
            tape.advance();
            if (!readPair("under", 0, board.watchers - 1, Board.WATCHER)
                    || !readPair("period", 4, 60, Board.PERIOD)
                    || !readPair("open", 0, MAX_OPEN, Board.OPEN)
                    || !readPair("close", got[Board.OPEN] + 1, MAX_CLOSE, Board.CLOSE)
                    || !readPair("least", 0, 20, Board.LEAST)
                    || !readPair("most", got[Board.LEAST], 40, Board.MOST) || !readEnd()) {
                return false;
            }
            int[] traits = board.traits[board.tasks];
            for (int what = Board.WATCHER; what <= Board.MOST; what++) {
                traits[what] = got[what];
            }
            board.tasks++;
            return true;
        }

        private boolean readNode() {
            int task = board.tasks - 1;
            if (task < 0) {
                return fail(BAD_TOKEN);
            }
            int node = board.traits[task][Board.NODES];
            if (node >= MAX_NODES) {
                return fail(TOO_MANY);
            }
            tape.advance();
            if (!readNumber(1, 9, 0) || (node > 0 && !readFlow(task, node)) || !readEnd()) {
                return false;
            }
            board.units[task][node] = got[0];
            board.traits[task][Board.NODES]++;
            return true;
        }

        private boolean readFlow(int task, int node) {
            if (!readWord("after")) {
                return false;
            }
            for (int i = 0; i == 0 || (i < node + 1 && tape.kind == Tape.NUMBER); i++) {
                if (tape.kind == Tape.NUMBER && board.isFollower(task, tape.value, node)) {
                    return fail(BAD_NUMBER);
                }
                if (!readNumber(0, node - 1, 1)) {
                    return false;
                }
                board.followers[task][got[1]] |= 1 << node;
            }
            return true;
        }

        private boolean readInjection(int kind) {
            if (kind == NONE) {
                return fail(BAD_TOKEN);
            }
            if (board.told >= MAX_TOLD) {
                return fail(TOO_MANY);
            }
            tape.advance();
            if (kind == SLEEP) {
                if (!readNumber(0, board.watchers - 1, 0) || !readPair("tick", 0, MAX_SLEEP, 1)) {
                    return false;
                }
            } else if (!readChangedTask() || !readPair("job", 0, MAX_JOB, 1)
                    || (kind != WRONG && !readPair("node", 0, board.traits[got[0]][Board.NODES] - 1, 2))
                    || !readPair("times", 1, MAX_TIMES, 3)) {
                return false;
            }
            if (!readEnd()) {
                return false;
            }
            board.setInjection(board.told, kind, got[0], got[1], got[2], got[3]);
            board.told++;
            return true;
        }

        private boolean readChangedTask() {
            if (tape.kind == Tape.NUMBER && !board.hasNode(tape.value, 0)) {
                return fail(BAD_NUMBER);
            }
            return readNumber(0, board.tasks - 1, 0);
        }

        private boolean readPair(String word, int low, int high, int slot) {
            return readWord(word) && readNumber(low, high, slot);
        }

        private boolean readWord(String word) {
            if (!tape.isWord(word)) {
                return fail(BAD_TOKEN);
            }
            tape.advance();
            return true;
        }

        private boolean readNumber(int low, int high, int slot) {
            if (tape.kind != Tape.NUMBER) {
                return fail(BAD_TOKEN);
            }
            if (tape.value < low || tape.value > high) {
                return fail(BAD_NUMBER);
            }
            got[slot] = tape.value;
            tape.advance();
            return true;
        }

        private boolean readEnd() {
            if (tape.kind != Tape.SIGN) {
                return fail(BAD_TOKEN);
            }
            tape.advance();
            return true;
        }
    }

    /** A board as it was told, and the acts behind it. Without lines it is none. */
    private static final class Board {
        static final int WATCHER = 0;
        static final int PERIOD = 1;
        static final int OPEN = 2;
        static final int CLOSE = 3;
        static final int LEAST = 4;
        static final int MOST = 5;
        static final int NODES = 6;
        static final int TRAITS = 7;
        static final int SHORTEST = 0;
        static final int LONGEST = 1;
        static final int KIND = 0;
        static final int WHO = 1;
        static final int JOB = 2;
        static final int NODE = 3;
        static final int TIMES = 4;
        static final int PARTS = 5;
        // one more than can be told and done, for a trial
        static final int MAX_INJECTIONS = MAX_TOLD + MAX_ACTS + 1;

        int ticks;
        int cycle;
        int low;
        int lines;
        int watchers;
        int tasks;
        int told;
        int acts;
        final int[] over = new int[MAX_WATCHERS];
        // the watchers at it and below it, as bits
        final int[] below = new int[MAX_WATCHERS];
        final int[][] traits = new int[MAX_TASKS][TRAITS];
        final int[][] units = new int[MAX_TASKS][MAX_NODES];
        final int[][] followers = new int[MAX_TASKS][MAX_NODES];
        final int[][] costs = new int[MAX_TASKS][2];
        final int[][] injections = new int[MAX_INJECTIONS][PARTS];

        void clear() {
            ticks = 0;
            cycle = 0;
            low = 0;
            lines = 0;
            watchers = 0;
            tasks = 0;
            told = 0;
            acts = 0;
            for (int task = 0; task < MAX_TASKS; task++) {
                traits[task][NODES] = 0;
                for (int node = 0; node < MAX_NODES; node++) {
                    followers[task][node] = 0;
                }
            }
        }

        void copyFrom(Board other) {
            ticks = other.ticks;
            cycle = other.cycle;
            low = other.low;
            lines = other.lines;
            watchers = other.watchers;
            tasks = other.tasks;
            told = other.told;
            acts = other.acts;
            System.arraycopy(other.over, 0, over, 0, MAX_WATCHERS);
            System.arraycopy(other.below, 0, below, 0, MAX_WATCHERS);
            for (int task = 0; task < MAX_TASKS; task++) {
                System.arraycopy(other.traits[task], 0, traits[task], 0, TRAITS);
                System.arraycopy(other.units[task], 0, units[task], 0, MAX_NODES);
                System.arraycopy(other.followers[task], 0, followers[task], 0, MAX_NODES);
                System.arraycopy(other.costs[task], 0, costs[task], 0, 2);
            }
            for (int i = 0; i < MAX_INJECTIONS; i++) {
                System.arraycopy(other.injections[i], 0, injections[i], 0, PARTS);
            }
        }

        boolean hasTask(int task) {
            return task >= 0 && task < tasks;
        }

        boolean hasNode(int task, int node) {
            return hasTask(task) && node >= 0 && node < traits[task][NODES];
        }

        boolean hasWatcher(int watcher) {
            return watcher >= 0 && watcher < watchers;
        }

        boolean hasInjection(int injection) {
            return injection >= 0 && injection < told + acts;
        }

        boolean isFollower(int task, int node, int later) {
            return hasNode(task, node) && (followers[task][node] & (1 << later)) != 0;
        }

        void addWatcher(int above) {
            if (watchers >= MAX_WATCHERS) {
                return;
            }
            over[watchers] = above;
            below[watchers] = 1 << watchers;
            for (int top = 0; top < watchers; top++) {
                if (above != NONE && (below[top] & (1 << above)) != 0) {
                    below[top] |= 1 << watchers;
                }
            }
            watchers++;
        }

        boolean isAtOrBelow(int watcher, int top) {
            return (below[top] & (1 << watcher)) != 0;
        }

        /** Whether an injection can be: what it has not is to be 0. */
        boolean allows(int kind, int who, int j, int k, int m) {
            if (kind == SLEEP) {
                return hasWatcher(who) && j >= 0 && j <= MAX_SLEEP && k == 0 && m == 0;
            }
            if (kind < HANG || kind > WRONG || j < 0 || j > MAX_JOB || m < 1 || m > MAX_TIMES) {
                return false;
            }
            return kind == WRONG ? hasTask(who) && k == 0 : hasNode(who, k);
        }

        void setInjection(int i, int kind, int who, int j, int k, int m) {
            if (i < 0 || i >= MAX_INJECTIONS) {
                return;
            }
            int[] row = injections[i];
            row[KIND] = kind;
            row[WHO] = who;
            row[JOB] = j;
            row[NODE] = kind == WRONG || kind == SLEEP ? NONE : k;
            row[TIMES] = kind == SLEEP ? NONE : m;
        }

        void dropInjection(int dropped) {
            for (int i = dropped; i < told + acts - 1; i++) {
                System.arraycopy(injections[i + 1], 0, injections[i], 0, PARTS);
            }
            if (dropped < told) {
                told--;
            } else {
                acts--;
            }
        }

        /** The kind of the first told injection that changes a job at a node (NONE: for the answer). */
        int changeAt(int task, int job, int node) {
            for (int i = 0; i < told + acts; i++) {
                int[] row = injections[i];
                if (row[KIND] != SLEEP && row[WHO] == task && row[NODE] == node
                        && job >= row[JOB] && job < row[JOB] + row[TIMES]) {
                    return row[KIND];
                }
            }
            return NONE;
        }

        void measureTasks() {
            int[] fewest = new int[MAX_NODES];
            int[] most = new int[MAX_NODES];
            for (int task = 0; task < tasks; task++) {
                for (int node = traits[task][NODES] - 1; node >= 0; node--) {
                    measureNode(task, node, fewest, most);
                }
                costs[task][SHORTEST] = fewest[0];
                costs[task][LONGEST] = most[0];
            }
        }

        private void measureNode(int task, int node, int[] fewest, int[] most) {
            int few = 0;
            int many = 0;
            for (int next = node + 1; next < traits[task][NODES]; next++) {
                if (isFollower(task, node, next)) {
                    few = few == 0 ? fewest[next] : Math.min(few, fewest[next]);
                    many = Math.max(many, most[next]);
                }
            }
            fewest[node] = units[task][node] + few;
            most[node] = units[task][node] + many;
        }
    }

    /** The ways of a task through its nodes. */
    private static final class Flow {
        private final int[][] reached = new int[MAX_NODES][ANSWERS];
        private final int[] ended = new int[ANSWERS];

        static int follower(Board board, int task, int node, int job) {
            if (!board.hasNode(task, node)) {
                return NONE;
            }
            int bits = board.followers[task][node];
            int choices = Integer.bitCount(bits);
            if (choices == 0) {
                return NONE;
            }
            int index = job % choices;
            for (int next = 0; next < MAX_NODES; next++) {
                if ((bits & (1 << next)) != 0) {
                    if (index == 0) {
                        return next;
                    }
                    index--;
                }
            }
            return NONE;
        }

        static int nodeOnWay(Board board, int task, int job, int i) {
            int node = 0;
            for (int k = 0; k < i && node != NONE; k++) {
                node = follower(board, task, node, job);
            }
            return node;
        }

        static int answerOf(Board board, int task, int job, int question) {
            int answer = question;
            int node = 0;
            for (int k = 0; k < MAX_NODES && node != NONE; k++) {
                answer = behindNode(answer, node);
                node = follower(board, task, node, job);
            }
            return answer;
        }

        private static int behindNode(int answer, int node) {
            return (5 * answer + node + 1) % ANSWERS;
        }

        int countWays(Board board, int task) {
            tallyAnswers(board, task, 0);
            int ways = 0;
            for (int answer = 0; answer < ANSWERS; answer++) {
                ways += ended[answer];
            }
            return ways;
        }

        int countPairs(Board board, int task, int question) {
            tallyAnswers(board, task, question);
            int pairs = 0;
            for (int answer = 0; answer < ANSWERS; answer++) {
                pairs += ended[answer] * (ended[answer] - 1) / 2;
            }
            return pairs;
        }

        /** How many ways come to each answer; followers have greater numbers, so one pass does. */
        private void tallyAnswers(Board board, int task, int question) {
            for (int answer = 0; answer < ANSWERS; answer++) {
                ended[answer] = 0;
                for (int node = 0; node < MAX_NODES; node++) {
                    reached[node][answer] = 0;
                }
            }
            reached[0][question] = 1;
            for (int node = 0; node < board.traits[task][Board.NODES]; node++) {
                for (int answer = 0; answer < ANSWERS; answer++) {
                    pass(board.followers[task][node], behindNode(answer, node), reached[node][answer]);
                }
            }
        }

        private void pass(int followers, int answer, int ways) {
            if (followers == 0) {
                ended[answer] += ways;
                return;
            }
            for (int next = 0; next < MAX_NODES; next++) {
                if ((followers & (1 << next)) != 0) {
                    reached[next][answer] += ways;
                }
            }
        }
    }

    /** Response times by an order of tasks, and which tasks are lawful by it. */
    private static final class Law {
        final int[] order = new int[MAX_TASKS];
        // a task whose first node is taken for longer, and by how many units
        private int richTask = NONE;
        private int extra;

        void lineUp(int tasks) {
            for (int i = 0; i < tasks && i < MAX_TASKS; i++) {
                order[i] = i;
            }
        }

        private int costOf(Board board, int task, int what) {
            return board.costs[task][what] + (task == richTask ? extra : 0);
        }

        int responseAt(Board board, int position) {
            int period = board.traits[order[position]][Board.PERIOD];
            for (int time = 1; time <= period; time++) {
                if (demandAt(board, position, time) == time) {
                    return time;
                }
            }
            return NONE;
        }

        private int demandAt(Board board, int position, int time) {
            int demand = costOf(board, order[position], Board.LONGEST);
            for (int i = 0; i < position; i++) {
                int times = divideUp(time, board.traits[order[i]][Board.PERIOD]);
                demand += times * costOf(board, order[i], Board.LONGEST);
            }
            return demand;
        }

        static int limit(Board board, int task, int spread, int what) {
            int period = board.traits[task][Board.PERIOD];
            switch (what) {
                case 0: return period - spread;
                case 1: return period + spread;
                case 2: return Math.max(0, divideCut(board.cycle - spread, period));
                default: return divideUp(board.cycle + spread, period);
            }
        }

        private boolean isLawful(Board board, int position) {
            int time = responseAt(board, position);
            if (time == NONE) {
                return false;
            }
            int task = order[position];
            int[] traits = board.traits[task];
            int spread = time - costOf(board, task, Board.SHORTEST);
            return traits[Board.OPEN] <= limit(board, task, spread, 0)
                    && traits[Board.CLOSE] >= limit(board, task, spread, 1)
                    && traits[Board.LEAST] <= limit(board, task, spread, 2)
                    && traits[Board.MOST] >= limit(board, task, spread, 3);
        }

        int lawfulBits(Board board) {
            lineUp(board.tasks);
            int bits = 0;
            for (int i = 0; i < board.tasks; i++) {
                if (isLawful(board, i)) {
                    bits |= 1 << i;
                }
            }
            return bits;
        }

        int roomOf(Board board, int task) {
            int now = lawfulBits(board);
            int room = 0;
            richTask = task;
            for (int more = MAX_ROOM; more > 0 && room == 0; more--) {
                extra = more;
                if ((now & ~lawfulBits(board)) == 0) {
                    room = more;
                }
            }
            richTask = NONE;
            extra = 0;
            return room;
        }

        int countOrders(Board board) {
            int lawfulOrders = 0;
            lineUp(board.tasks);
            boolean more = true;
            for (int i = 0; i < 120 && more; i++) {
                if (isOrderLawful(board)) {
                    lawfulOrders++;
                }
                more = nextOrder(board.tasks);
            }
            return lawfulOrders;
        }

        /** Leaves the first lawful order in place. */
        boolean findOrder(Board board) {
            lineUp(board.tasks);
            boolean more = true;
            for (int i = 0; i < 120 && more; i++) {
                if (isOrderLawful(board)) {
                    return true;
                }
                more = nextOrder(board.tasks);
            }
            return false;
        }

        private boolean isOrderLawful(Board board) {
            for (int i = 0; i < board.tasks; i++) {
                if (!isLawful(board, i)) {
                    return false;
                }
            }
            return true;
        }

        private boolean nextOrder(int tasks) {
            int turn = tasks - 2;
            while (turn >= 0 && order[turn] > order[turn + 1]) {
                turn--;
            }
            if (turn < 0) {
                return false;
            }
            int last = tasks - 1;
            while (last > turn + 1 && order[last] < order[turn]) {
                last--;
            }
            swap(turn, last);
            for (int low = turn + 1, high = tasks - 1; low < high; low++, high--) {
                swap(low, high);
            }
            return true;
        }

        private void swap(int i, int k) {
            int kept = order[i];
            order[i] = order[k];
            order[k] = kept;
        }

        static float loadOf(Board board) {
            float load = 0f;
            for (int task = 0; task < board.tasks; task++) {
                int period = board.traits[task][Board.PERIOD];
                if (period > 0) {
                    load = load + (float) board.costs[task][Board.LONGEST] / (float) period;
                }
            }
            return load;
        }
    }

    /** Where a task stands as a tick begins. */
    private static final class TaskState {
        int from;
        int begun;
        int place;
        int unitsLeft;
        int change;
        int latestKick;
        int asked;
        int caughtTimes;
        int wellCycles;
        boolean faultyCycle;
        int goodInCycle;
        float fitness;
        int goodKicks;
        int latestGood;
        int margins;
        float leastMargin;
        double marginSum;

        void reset() {
            begun = 0;
            caughtTimes = 0;
            wellCycles = 0;
            fitness = 1f;
            goodKicks = 0;
            latestGood = NONE;
            margins = 0;
            leastMargin = 0f;
            marginSum = 0.0;
            forgetCycle();
            restartAt(0);
        }

        void restartAt(int tick) {
            from = tick;
            place = NONE;
            unitsLeft = 0;
            change = NONE;
            latestKick = NONE;
            asked = 1;
        }

        void forgetCycle() {
            faultyCycle = false;
            goodInCycle = 0;
        }

        void copyFrom(TaskState other) {
            from = other.from;
            begun = other.begun;
            place = other.place;
            unitsLeft = other.unitsLeft;
            change = other.change;
            latestKick = other.latestKick;
            asked = other.asked;
            caughtTimes = other.caughtTimes;
            wellCycles = other.wellCycles;
            faultyCycle = other.faultyCycle;
            goodInCycle = other.goodInCycle;
            fitness = other.fitness;
            goodKicks = other.goodKicks;
            latestGood = other.latestGood;
            margins = other.margins;
            leastMargin = other.leastMargin;
            marginSum = other.marginSum;
        }

        int job() {
            return begun - 1;
        }

        boolean wantsTick() {
            return place != NONE && change != STOP;
        }

        int gapAt(int tick) {
            return latestKick == NONE ? tick - from + 1 : tick - latestKick;
        }

        void suffer() {
            caughtTimes++;
            fitness = fitness / 2f;
            wellCycles = 0;
            faultyCycle = true;
        }

        void kickWell(int tick, int open, int close) {
            if (latestKick != NONE) {
                addMargin(close - gapAt(tick), close - open);
            }
            goodKicks++;
            goodInCycle++;
            latestGood = tick;
            latestKick = tick;
            fitness = fitness + (1f - fitness) * 0.25f;
            asked = (13 * asked + 7) % ANSWERS;
            place = NONE;
            change = NONE;
        }

        private void addMargin(int rest, int width) {
            if (width < 1) {
                return;
            }
            float margin = (float) rest / (float) width;
            if (margins == 0 || margin < leastMargin) {
                leastMargin = margin;
            }
            margins++;
            marginSum = marginSum + (double) margin;
        }

        void endCycle() {
            if (faultyCycle || caughtTimes == 0) {
                return;
            }
            wellCycles++;
            if (wellCycles == 3) {
                caughtTimes--;
                wellCycles = 0;
            }
        }
    }

    /** The records of a run, in order. */
    private static final class Records {
        static final int TICK = 0;
        static final int KIND = 1;
        static final int WHO = 2;
        static final int LEVEL = 3;
        static final int PARTS = 4;

        static final int GOOD = 0;
        static final int EARLY = 1;
        static final int LATE = 2;
        static final int FLOW = 3;
        static final int ANSWER = 4;
        static final int ALIVE = 5;
        static final int ASLEEP = 6;
        static final int DOG = 7;

        // 40 cycles take no count back more than 13 times: 5 tasks of 16 each, 2 watchers, 3 boards
        private static final int MOST = 128;

        final int[][] rows = new int[MOST][PARTS];
        int size;

        void add(int tick, int kind, int who, int level) {
            if (size >= MOST) {
                return;
            }
            int[] row = rows[size];
            row[TICK] = tick;
            row[KIND] = kind;
            row[WHO] = who;
            row[LEVEL] = level;
            size++;
        }

        void copyFrom(Records other) {
            size = other.size;
            for (int k = 0; k < size; k++) {
                System.arraycopy(other.rows[k], 0, rows[k], 0, PARTS);
            }
        }

        int countAhead(int tick) {
            int found = 0;
            for (int k = 0; k < size; k++) {
                if (rows[k][TICK] < tick) {
                    found++;
                }
            }
            return found;
        }

        int countKind(int kind) {
            int found = 0;
            for (int k = 0; k < size; k++) {
                if (rows[k][KIND] == kind) {
                    found++;
                }
            }
            return found;
        }

        int countLevelAhead(int level, int tick) {
            int found = 0;
            for (int k = 0; k < size; k++) {
                if (rows[k][LEVEL] == level && rows[k][TICK] < tick) {
                    found++;
                }
            }
            return found;
        }

        /** How long behind a tick the first record of a task (or of a watcher) comes. */
        int delayFrom(int tick, boolean ofWatcher, int who) {
            for (int k = 0; k < size; k++) {
                int[] row = rows[k];
                if (row[TICK] >= tick && row[WHO] == who && (row[KIND] >= ASLEEP) == ofWatcher) {
                    return row[TICK] - tick;
                }
            }
            return NONE;
        }
    }

    /** A run of a board of its own, tick by tick. */
    private static final class Run {
        static final int TOP_LEVEL = 3;
        private static final int RESETS_TO_HALT = 3;

        final Board board = new Board();
        final TaskState[] states = new TaskState[MAX_TASKS];
        final Records records = new Records();
        int latestOwner = NONE;
        int idleTicks;
        int haltTick = NONE;
        private int now;
        private int resets;
        private boolean tickOver;
        private final int[][] begunAt = new int[MAX_TASKS][MAX_JOB + 1];
        private final int[] kickTask = new int[MAX_TICKS];
        private final int[] kickGap = new int[MAX_TICKS];
        private int kickSize;
        private final int[] wokenAt = new int[MAX_WATCHERS];
        private final boolean[] foundAsleep = new boolean[MAX_WATCHERS];
        private final boolean[] looked = new boolean[MAX_WATCHERS];

        Run() {
            for (int task = 0; task < MAX_TASKS; task++) {
                states[task] = new TaskState();
            }
        }

        void reset() {
            now = 0;
            latestOwner = NONE;
            idleTicks = 0;
            haltTick = NONE;
            resets = 0;
            kickSize = 0;
            records.size = 0;
            for (int task = 0; task < MAX_TASKS; task++) {
                states[task].reset();
            }
            for (int watcher = 0; watcher < MAX_WATCHERS; watcher++) {
                wokenAt[watcher] = NONE;
                foundAsleep[watcher] = false;
            }
        }

        /** Takes over where another run stands, but not its board, nor what it told of the past. */
        void resume(Run other) {
            now = other.now;
            latestOwner = other.latestOwner;
            idleTicks = other.idleTicks;
            haltTick = other.haltTick;
            resets = other.resets;
            kickSize = 0;
            records.copyFrom(other.records);
            for (int task = 0; task < MAX_TASKS; task++) {
                states[task].copyFrom(other.states[task]);
            }
            for (int watcher = 0; watcher < MAX_WATCHERS; watcher++) {
                wokenAt[watcher] = other.wokenAt[watcher];
                foundAsleep[watcher] = other.foundAsleep[watcher];
            }
        }

        /** Stands as a tick begins. */
        void show(int tick) {
            if (tick < now) {
                reset();
            }
            for (int i = now; i < tick && i < board.ticks; i++) {
                step();
            }
        }

        /** Runs the whole board from the first tick on: how many records there are. */
        int countRecords() {
            reset();
            for (int i = 0; i < board.ticks && haltTick == NONE; i++) {
                step();
            }
            return records.size;
        }

        private void step() {
            latestOwner = NONE;
            tickOver = haltTick != NONE;
            if (!tickOver) {
                beginTick();
                latestOwner = nextOwner();
                work(latestOwner);
                askLate();
            }
            if (divides(board.cycle, now + 1)) {
                letWatchersLook();
                askDog();
                endCycle();
            }
            if (latestOwner == NONE) {
                idleTicks++;
            }
            now++;
        }

        private void beginTick() {
            boolean cycleBegins = divides(board.cycle, now);
            for (int task = 0; task < board.tasks; task++) {
                TaskState state = states[task];
                if (cycleBegins) {
                    state.forgetCycle();
                }
                if (state.place == NONE && now >= state.from
                        && divides(board.traits[task][Board.PERIOD], now)) {
                    if (state.begun <= MAX_JOB) {
                        begunAt[task][state.begun] = now;
                    }
                    state.begun++;
                    enterNode(task, 0);
                }
            }
        }

        private void enterNode(int task, int node) {
            TaskState state = states[task];
            state.place = node;
            state.change = board.changeAt(task, state.job(), node);
            state.unitsLeft = board.units[task][node] * (state.change == SLOW ? 2 : 1);
        }

        private int nextOwner() {
            for (int task = 0; task < board.tasks; task++) {
                if (states[task].wantsTick()) {
                    return task;
                }
            }
            return NONE;
        }

        private void work(int task) {
            if (!board.hasTask(task) || states[task].change == HANG) {
                return;
            }
            TaskState state = states[task];
            state.unitsLeft--;
            if (state.unitsLeft > 0) {
                return;
            }
            int next = Flow.follower(board, task, state.place, state.job());
            if (next != NONE && state.change != SKIP) {
                enterNode(task, next);
                return;
            }
            int kind = kindOfKick(task, next != NONE);
            if (kind != Records.GOOD) {
                failTask(task, kind);
                return;
            }
            noteKick(task, state.gapAt(now));
            state.kickWell(now, board.traits[task][Board.OPEN], board.traits[task][Board.CLOSE]);
        }

        private int kindOfKick(int task, boolean cutShort) {
            TaskState state = states[task];
            if (cutShort) {
                return Records.FLOW;
            }
            if (board.changeAt(task, state.job(), NONE) == WRONG) {
                return Records.ANSWER;
            }
            boolean early = state.gapAt(now) < board.traits[task][Board.OPEN];
            return early && state.latestKick != NONE ? Records.EARLY : Records.GOOD;
        }

        private void noteKick(int task, int gap) {
            if (kickSize < MAX_TICKS) {
                kickTask[kickSize] = task;
                kickGap[kickSize] = gap;
                kickSize++;
            }
        }

        private void askLate() {
            for (int task = 0; task < board.tasks && !tickOver; task++) {
                TaskState state = states[task];
                // a good kick at this tick leaves a gap of 0, a bad one a start behind it
                if (now >= state.from && state.gapAt(now) >= board.traits[task][Board.CLOSE]) {
                    failTask(task, Records.LATE);
                }
            }
        }

        private void letWatchersLook() {
            for (int watcher = board.watchers - 1; watcher >= 0 && !tickOver; watcher--) {
                looked[watcher] = !isAsleep(watcher);
                if (!looked[watcher]) {
                    continue;
                }
                for (int task = 0; task < board.tasks && !tickOver; task++) {
                    if (missesUnder(watcher, task)) {
                        failTask(task, Records.ALIVE);
                    }
                }
                for (int other = watcher + 1; other < board.watchers && !tickOver; other++) {
                    if (board.over[other] == watcher && !looked[other]) {
                        failWatcher(other);
                    }
                }
            }
        }

        private boolean missesUnder(int watcher, int task) {
            int[] traits = board.traits[task];
            TaskState state = states[task];
            return traits[Board.WATCHER] == watcher && state.from <= now - board.cycle + 1
                    && (state.goodInCycle < traits[Board.LEAST] || state.goodInCycle > traits[Board.MOST]);
        }

        private void askDog() {
            if (!tickOver && board.watchers > 0 && !looked[0]) {
                records.add(now, Records.DOG, 0, TOP_LEVEL);
                climb(TOP_LEVEL, NONE, 0);
            }
        }

        private void endCycle() {
            for (int task = 0; task < board.tasks && !tickOver; task++) {
                states[task].endCycle();
            }
        }

        private void failTask(int task, int kind) {
            TaskState state = states[task];
            state.suffer();
            int level = state.caughtTimes - 1;
            if (state.fitness < (float) board.low / 10f) {
                level++;
            }
            level = Math.min(level, TOP_LEVEL);
            records.add(now, kind, task, level);
            climb(level, task, board.traits[task][Board.WATCHER]);
        }

        private void failWatcher(int watcher) {
            int level = foundAsleep[watcher] ? TOP_LEVEL : 2;
            foundAsleep[watcher] = true;
            records.add(now, Records.ASLEEP, watcher, level);
            climb(level, NONE, watcher);
        }

        /** Restarts a task (level 0), those under its watcher, those below that too, or the board. */
        private void climb(int level, int task, int watcher) {
            for (int other = 0; other < board.tasks; other++) {
                int its = board.traits[other][Board.WATCHER];
                if (level == TOP_LEVEL || (level == 2 && board.isAtOrBelow(its, watcher))
                        || (level == 1 && its == watcher) || other == task) {
                    int period = Math.max(1, board.traits[other][Board.PERIOD]);
                    states[other].restartAt((now / period + 1) * period);
                }
            }
            for (int other = 0; other < board.watchers; other++) {
                if (level == TOP_LEVEL || (level == 2 && board.isAtOrBelow(other, watcher))) {
                    wokenAt[other] = now;
                }
            }
            if (level == TOP_LEVEL) {
                endTickByReset();
            }
        }

        private void endTickByReset() {
            tickOver = true;
            resets++;
            if (resets == RESETS_TO_HALT) {
                haltTick = now;
            }
        }

        /** A sleep counts from its tick on, on a board that halted too, if no waking came at it or behind it. */
        boolean isAsleep(int watcher) {
            for (int i = 0; i < board.told + board.acts; i++) {
                int[] row = board.injections[i];
                if (row[Board.KIND] == SLEEP && row[Board.WHO] == watcher
                        && row[Board.JOB] <= now && row[Board.JOB] > wokenAt[watcher]) {
                    return true;
                }
            }
            return false;
        }

        int gapOfKick(int task, int k) {
            int left = k;
            for (int i = 0; i < kickSize; i++) {
                if (kickTask[i] == task) {
                    if (left == 0) {
                        return kickGap[i];
                    }
                    left--;
                }
            }
            return NONE;
        }

        /** The tick at which a job began; NONE: it did not. */
        int beginOf(int task, int job) {
            boolean told = board.hasTask(task) && isJob(job) && job < states[task].begun;
            return told ? begunAt[task][job] : NONE;
        }

        int delayOf(int injection) {
            int[] row = board.injections[injection];
            boolean ofWatcher = row[Board.KIND] == SLEEP;
            int tick = ofWatcher ? row[Board.JOB] : beginOf(row[Board.WHO], row[Board.JOB]);
            return tick == NONE ? NONE : records.delayFrom(tick, ofWatcher, row[Board.WHO]);
        }

        /** Runs on until a task has a record at a tick or behind it. */
        int delayOfNext(int task, int tick) {
            for (int i = now; i < board.ticks && haltTick == NONE; i++) {
                step();
                int delay = records.delayFrom(tick, false, task);
                if (delay != NONE) {
                    return delay;
                }
            }
            return NONE;
        }
    }

    /** Runs of the board with something else than it is. */
    private static final class Trials {
        private static final int KINDS = WRONG + 1;

        final int[][] greatestDelay = new int[MAX_TASKS][KINDS];
        // NONE: not asked since the board changed
        final int[][] uncaught = new int[MAX_TASKS][KINDS];
        private final Run trial = new Run();

        void forget() {
            for (int task = 0; task < MAX_TASKS; task++) {
                for (int kind = 0; kind < KINDS; kind++) {
                    uncaught[task][kind] = NONE;
                }
            }
        }

        int recordsLacking(Board board, int injection) {
            trial.board.copyFrom(board);
            trial.board.dropInjection(injection);
            return trial.countRecords();
        }

        int recordsWindowed(Board board, int task, int open, int close) {
            trial.board.copyFrom(board);
            trial.board.traits[task][Board.OPEN] = open;
            trial.board.traits[task][Board.CLOSE] = close;
            return trial.countRecords();
        }

        /** One injection more, in each job and node in turn: what is caught of it, and how soon. */
        void probe(Run whole, Run view, int task, int kind) {
            if (uncaught[task][kind] != NONE) {
                return;
            }
            trial.board.copyFrom(whole.board);
            // an act may be one too many for a board, but not for a trial
            trial.board.acts++;
            int last = trial.board.told + trial.board.acts - 1;
            int nodes = kind == WRONG ? 1 : whole.board.traits[task][Board.NODES];
            greatestDelay[task][kind] = NONE;
            uncaught[task][kind] = 0;
            for (int job = 0; job <= MAX_JOB && whole.beginOf(task, job) != NONE; job++) {
                int tick = whole.beginOf(task, job);
                view.show(tick);
                for (int node = 0; node < nodes; node++) {
                    trial.board.setInjection(last, kind, task, job, node, 1);
                    trial.resume(view);
                    noteDelay(task, kind, trial.delayOfNext(task, tick));
                }
            }
        }

        private void noteDelay(int task, int kind, int delay) {
            if (delay == NONE) {
                uncaught[task][kind]++;
            }
            greatestDelay[task][kind] = Math.max(greatestDelay[task][kind], delay);
        }
    }
}
