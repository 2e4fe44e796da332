/** What PromiseTest and EdgeTest share: the findings, the kinds, shores told by texts, and the count of wrong answers. */
abstract class ShoreTest {
    static final int BEYOND = -1000001;
    static final int FULL = BEYOND - 1;
    static final int KIND = BEYOND - 2;
    static final int NONE = BEYOND - 3;
    static final int STATE = BEYOND - 4;
    static final int MISSING = BEYOND - 5;
    static final int SIZE = BEYOND - 6;
    static final int LEAST = Integer.MIN_VALUE;
    static final int MOST = Integer.MAX_VALUE;
    static final int WALKER = 0;
    static final int CHILD = 1;
    static final int CARTER = 2;
    static final int HORSE = 3;
    static final int RIDER = 4;
    static final int THIEF = 5;
    static final int RUNNER = 6;

    private static int wrong = 0;
    private static int checks = 0;

    static void due(String told, long got, long want) {
        checks++;
        if (got != want) {
            wrong++;
            System.out.println(told + ": " + got + ", due is " + want);
        }
    }

    static void feed(PrintShore x, String text) {
        for (int i = 0; i < text.length(); i++) {
            x.feed(text.charAt(i), 1);
        }
    }

    static int read(PrintShore x, String text) {
        feed(x, text);
        return x.text();
    }

    static PrintShore shoreOf(String text) {
        PrintShore x = new PrintShore();
        due("'" + text + "' is a text", read(x, text) > 0 ? 1 : 0, 1);
        return x;
    }

    static void fill(PrintShore x, int s, int bits, int[] numbers) {
        x.sheet(s, bits, numbers.length);
        for (int i = 0; i < numbers.length; i++) {
            x.write(s, i, numbers[i]);
        }
    }

    /** The last call of a test: its exit code is 1 if an answer was wrong. */
    static void close() {
        System.out.println(checks + " answers looked at, " + wrong + " wrong");
        if (wrong != 0) {
            System.exit(1);
        }
    }
}
