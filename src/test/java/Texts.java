/** Lines of boards, put together. */
final class Texts {
    private Texts() {
    }

    /** A board and its first watcher. */
    static String board(int h, int y, int n) {
        return "board ticks " + h + " cycle " + y + " low " + n + ";watcher root;";
    }

    static String task(int w, int p, int a, int b, int l, int m) {
        return "task under " + w + " period " + p + " open " + a + " close " + b + " least " + l + " most " + m + ";";
    }

    /** A task under watcher 0 that is asked as little as can be. */
    static String wide(int p) {
        return task(0, p, 0, 120, 0, 40);
    }

    static int bits(float number) {
        return Float.floatToIntBits(number);
    }

    static long bits(double number) {
        return Double.doubleToLongBits(number);
    }
}
