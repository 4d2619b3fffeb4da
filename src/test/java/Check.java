/** Counts what is not as it is due. */
final class Check {
    private int made;
    private int wrong;

    void due(String call, long got, long want) {
        made++;
        if (got != want) {
            wrong++;
            if (wrong <= 40) {
                System.out.println(call + " answered " + got + ", due is " + want);
            }
        }
    }

    /** Prints the sum and ends the program with 1 if something was wrong. */
    void end(String name) {
        System.out.println(name + ": " + made + " answers, " + wrong + " not as due");
        if (wrong != 0 || made == 0) {
            System.exit(1);
        }
    }

    /** Feeds a text as the tape; answers whether all of it went in. */
    static boolean feed(WatchStack stack, String text) {
        int before = stack.count(8);
        int length = text.length();
        for (int i = 0; i < length; i += 20) {
            int[] five = new int[5];
            for (int k = 0; k < 20; k++) {
                int sign = i + k < length ? text.charAt(i + k) & 255 : 32;
                five[k / 4] = five[k / 4] << 8 | sign;
            }
            if (stack.feed(five[0], five[1], five[2], five[3], five[4]) == WatchStack.NONE) {
                return false;
            }
        }
        return stack.end(before + length) == before + length;
    }

    /** A new object with a board. */
    static WatchStack on(String text) {
        WatchStack stack = new WatchStack();
        if (!feed(stack, text) || stack.board() < 0) {
            throw new IllegalStateException("no board: " + text + " fault " + stack.fault(0) + " at " + stack.fault(1));
        }
        return stack;
    }
}
