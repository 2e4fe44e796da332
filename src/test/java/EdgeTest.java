/**
 * The boundary cases of the document, a sentence each: least and greatest values, the empty and the full, what is cut,
 * what wraps around, what stops at its bound. What is refused is RefusedTest's.
 */
public final class EdgeTest extends ShoreTest {
    private static final int ALL = (1 << 24) - 1;

    private static PrintShore shoreOfOne(int kind, int cell, int way, int stride, int weight) {
        PrintShore x = new PrintShore();
        x.walker(kind, cell);
        x.change(0, 2, way);
        x.change(0, 3, stride);
        x.change(0, 4, weight);
        return x;
    }

    // ---- terms: shore

    private static void reachOfTheTide() {
        for (int reach = 0; reach <= 24; reach++) {
            PrintShore x = new PrintShore();
            x.walker(WALKER, 0);
            for (int cell = 0; cell < 24; cell++) {
                x.print(cell, 0, 7);
            }
            due("all cells have prints", x.now(1), 24);
            due("all cells have prints", x.now(3), ALL);
            due("the line of a full shore", x.line(0), 24);
            due("the first reach is 8", x.reach(reach), 8);
            due("it clears cells 0 to " + reach + " - 1", x.tide(), reach);
            due("it clears cells 0 to " + reach + " - 1", x.now(3), ALL & -(1 << reach));
            due("none is gone twice", x.tide(), 0);
        }
    }

    private static void depthsBeforeTheTide() {
        for (int depth = 0; depth <= 9; depth++) {
            PrintShore x = shoreOf("walker;walker out");
            x.print(0, 1, depth);
            x.print(8, 1, depth);
            boolean stays = depth >= 8;
            due("a depth of " + depth + " is gone", x.tide(), stays ? 0 : 1);
            due("whose, depth " + depth, x.cell(0, 0), stays ? 1 : -1);
            due("1 less, or 0, depth " + depth, x.cell(0, 1), stays ? depth - 1 : 0);
            due("toward, depth " + depth, x.cell(0, 2), 0);
            due("no farther than reach, depth " + depth, x.cell(8, 1), depth);
        }
        PrintShore x = shoreOf("walker;print 0 0 9;print 1 0 7");
        x.tide();
        due("what stays looks as before", x.cell(0, 2), 1);
        due("what is gone looks nowhere", x.cell(1, 2), 0);
    }

    private static void quotedStopsAtItsBound() {
        PrintShore x = new PrintShore();
        for (int i = 0; i < 8; i++) {
            x.walker(RUNNER, 0);
        }
        x.reach(0);
        x.go(48);
        int quoted = x.now(2);
        while (quoted + 480 <= 99999) {
            x.go(60);
            quoted += 480;
        }
        due("8 an hour", x.now(2), quoted);
        while (quoted + 8 <= 99999) {
            x.go(1);
            quoted += 8;
            due("8 an hour", x.now(2), quoted);
        }
        x.image();
        x.go(1);
        due("99999 at most", x.now(2), 99999);
        due("99999 at most", x.count(3), 99999);
        x.go(1);
        due("99999 at most", x.now(2), 99999);
        due("censor: all at the bound, the least", x.censor(40), 0);
        x.undo();
        due("one below the bound can be made", quoted >= 99992 && quoted <= 99998 ? 1 : 0, 1);
        // So many as are to quote follow the first of them, each upon the print of the one before.
        scatter(x, 99998 - quoted + 1);
        x.go(1);
        due("one below the bound", x.now(2), 99998);
        scatter(x, 1);
        x.print(5 * 2 + 1, 0, 0);
        due("censor: 5 comes upon a print, and without it one is below the bound", x.censor(1), 5);
        x.go(1);
        due("the bound itself", x.now(2), 99999);
    }

    /** A shore without prints, eight who stride 1, the first ones together at 0 and each other one by itself. */
    private static void scatter(PrintShore x, int together) {
        for (int cell = 0; cell < 24; cell++) {
            x.print(cell, -1, 0);
        }
        for (int i = 0; i < 8; i++) {
            x.change(i, 0, WALKER);
            x.change(i, 1, i < together ? 0 : 2 * i);
            x.change(i, 2, 1);
        }
    }

    private static void stepsStopAtTheirBound() {
        PrintShore x = new PrintShore();
        for (int i = 0; i < 8; i++) {
            x.walker(i % 7, i);
            due("steps at first", x.change(i, 5, i == 0 ? 99997 : 99999), 0);
        }
        due("all but the bound", x.now(6), 8 * 99999 - 2);
        for (int steps : new int[] {99998, 99999, 99999}) {
            x.go(1);
            due("steps of 0", x.of(0, 5), steps);
            due("steps of 7", x.of(7, 5), 99999);
        }
        due("steps of all together", x.now(6), 799992);
        due("steps of all together", x.count(4), 799992);
        x.change(0, 5, 0);
        due("steps of all together", x.count(4), 699993);
    }

    private static void walkersAtMostEight() {
        PrintShore x = new PrintShore();
        due("no walkers", x.count(1), 0);
        for (int i = 0; i < 8; i++) {
            due("the number", x.walker(i == 7 ? 6 : i % 7, i == 0 ? 0 : 23), i);
            due("so many", x.count(1), i + 1);
        }
        due("a 9th", x.walker(0, 0), FULL);
        due("eight stay", x.count(1), 8);
        due("all but 0 at 23", x.cell(23, 3), 254);
        due("0 at 0", x.cell(0, 3), 1);
        x.change(0, 1, 23);
        due("all at 23", x.cell(23, 3), 255);
        due("none at 0", x.cell(0, 3), 0);
    }

    private static void printsOfNoneAndOfAny() {
        PrintShore x = shoreOf("walker;walker out;thief");
        for (int cell : new int[] {0, 23}) {
            due("none at first", x.print(cell, -1, 9), -1);
            due("none stays none", x.now(1), 0);
            due("none has no depth", x.cell(cell, 1), 0);
            due("whose it had: none", x.print(cell, 2, 9), -1);
            due("whose it had: 2", x.print(cell, 1, 0), 2);
            due("whose", x.cell(cell, 0), 1);
            due("the least depth", x.cell(cell, 1), 0);
            due("toward its way", x.cell(cell, 2), 0);
            due("whose it had: 1", x.print(cell, 0, 9), 1);
            due("the greatest depth", x.cell(cell, 1), 9);
            due("toward its way", x.cell(cell, 2), 1);
            due("a print of depth 0 is one", x.now(1), 1);
            due("whose it had: 0", x.print(cell, -1, 9), 0);
            due("none", x.cell(cell, 0), -1);
            due("none has no depth", x.cell(cell, 1), 0);
            due("none looks nowhere", x.cell(cell, 2), 0);
        }
    }

    // ---- terms: kinds

    /** Rows: kinds 0 to 6. Columns: strides 1 to 6. */
    private static final int[][] EVEN = {{1, 2, 3, 4, 5, 6}, {1, 2, 3, 4, 5, 6}, {1, 1, 1, 1, 1, 1}, {1, 2, 2, 3, 3, 4},
        {3, 4, 4, 5, 5, 6}, {1, 2, 3, 4, 5, 6}, {2, 4, 6, 8, 10, 12}};
    private static final int[][] ODD = {{1, 2, 3, 4, 5, 6}, {2, 3, 4, 5, 6, 7}, {1, 1, 1, 1, 1, 1}, {1, 2, 2, 3, 3, 4},
        {3, 4, 4, 5, 5, 6}, {1, 2, 3, 4, 5, 6}, {4, 6, 8, 10, 12, 14}};
    /** Rows: kinds 0 to 6. Columns: weights 1 to 9. A rider's row is that of strides above 3. */
    private static final int[][] PRESSES = {{1, 2, 3, 4, 5, 6, 7, 8, 9}, {0, 1, 1, 2, 2, 3, 3, 4, 4}, {4, 5, 6, 7, 8, 9, 9, 9, 9},
        {5, 6, 7, 8, 9, 9, 9, 9, 9}, {5, 6, 7, 8, 9, 9, 9, 9, 9}, {1, 1, 1, 1, 1, 1, 1, 1, 1}, {0, 0, 0, 1, 1, 2, 2, 3, 3}};
    /** The bound of 9 is that of the whole: 6 and 3 and 1 less 2 is 8. */
    private static final int[] SLOW_RIDER = {3, 4, 5, 6, 7, 8, 9, 9, 9};

    private static void stridesOfKinds() {
        for (int kind = 0; kind <= 6; kind++) {
            for (int stride = 1; stride <= 6; stride++) {
                PrintShore x = shoreOfOne(kind, 0, 1, stride, 4);
                String told = "kind " + kind + " strides with " + stride;
                due(told + " at hour 0", x.of(0, 6), EVEN[kind][stride - 1]);
                x.go(1);
                due(told + " goes so far", x.of(0, 1), EVEN[kind][stride - 1]);
                due(told + " at hour 1", x.of(0, 6), ODD[kind][stride - 1]);
                x.change(0, 1, 0);
                x.go(1);
                due(told + " goes so far", x.of(0, 1), ODD[kind][stride - 1]);
                due(told + " at hour 2", x.of(0, 6), EVEN[kind][stride - 1]);
            }
        }
    }

    private static void pressesOfKinds() {
        for (int kind = 0; kind <= 6; kind++) {
            for (int weight = 1; weight <= 9; weight++) {
                for (int stride = 1; stride <= 6; stride++) {
                    PrintShore x = shoreOfOne(kind, 12, 1, stride, weight);
                    int want = kind == RIDER && stride <= 3 ? SLOW_RIDER[weight - 1] : PRESSES[kind][weight - 1];
                    String told = "kind " + kind + " presses with " + weight + ", " + stride;
                    due(told, x.of(0, 7), want);
                    x.go(1);
                    due(told + ": its print", x.cell(x.of(0, 1), 1), want);
                    due(told + ": depths together", x.now(4), want);
                }
            }
        }
    }

    private static void looksOfKinds() {
        for (int kind = 0; kind <= 6; kind++) {
            for (int way = 0; way <= 1; way++) {
                PrintShore x = shoreOfOne(kind, 12, way, 1, 4);
                int want = kind == THIEF ? 1 - way : way;
                due("looks of kind " + kind, x.of(0, 8), want);
                x.print(0, 0, 1);
                due("print() tells its way", x.cell(0, 2), way);
                x.go(1);
                due("its print looks so", x.cell(x.of(0, 1), 2), want);
            }
        }
    }

    // ---- terms: an hour

    /** Cell, way, stride, then where it comes to and the way it has from then on. */
    private static final int[][] ENDS = {{22, 1, 1, 23, 1}, {23, 1, 1, 23, 0}, {21, 1, 2, 23, 1}, {22, 1, 2, 23, 0},
        {17, 1, 6, 23, 1}, {18, 1, 6, 23, 0}, {23, 1, 6, 23, 0}, {23, 0, 6, 17, 0}, {1, 0, 1, 0, 0}, {0, 0, 1, 0, 1},
        {2, 0, 2, 0, 0}, {1, 0, 2, 0, 1}, {6, 0, 6, 0, 0}, {5, 0, 6, 0, 1}, {0, 0, 6, 0, 1}, {0, 1, 6, 6, 1}};

    private static void noFartherThanTheEnds() {
        for (int[] e : ENDS) {
            for (int kind : new int[] {WALKER, THIEF}) {
                PrintShore x = shoreOfOne(kind, e[0], e[1], e[2], 4);
                String told = "from " + e[0] + ", way " + e[1] + ", " + e[2] + " cells";
                due(told + ": one print", x.go(1), 1);
                due(told + ": comes to", x.of(0, 1), e[3]);
                due(told + ": way from then on", x.of(0, 2), e[4]);
                due(told + ": the print is there", x.cell(e[3], 0), 0);
                due(told + ": with the way it went", x.cell(e[3], 2), kind == THIEF ? 1 - e[1] : e[1]);
                due(told + ": a step", x.of(0, 5), 1);
            }
        }
        PrintShore x = shoreOfOne(RUNNER, 0, 1, 6, 9);
        x.go(1);
        x.go(1);
        due("the farthest of all, 14 from 12", x.of(0, 1), 23);
        due("it turned", x.of(0, 2), 0);
    }

    private static void quotesOfOthersAlone() {
        PrintShore x = shoreOf("walker at 4;walker at 10;print 5 0 1");
        x.go(1);
        due("its own print and no print", x.now(2), 0);
        x.print(6, 1, 0);
        due("print() itself quotes nothing", x.now(2), 0);
        x.go(1);
        due("one of another, of depth 0", x.now(2), 1);
        PrintShore y = shoreOf("walker at 4;walker at 4;walker at 6 out");
        y.go(1);
        due("walkers by numbers: 1 upon 0, 2 upon 1", y.now(2), 2);
        due("the last one's stands", y.cell(5, 0), 2);
        due("toward of the last one", y.cell(5, 2), 0);
        PrintShore z = shoreOf("walker at 23;walker at 22;print 23 1 1");
        z.go(1);
        due("0 upon 1 at the end, and 1 upon 0", z.now(2), 2);
    }

    private static void tideEverySixthHour() {
        PrintShore x = shoreOf("walker at 20");
        for (int hour = 1; hour <= 13; hour++) {
            x.print(7, 0, 7);
            x.print(8, 0, 7);
            x.go(1);
            due("the hour", x.now(0), hour);
            due("tide at hour " + hour, x.cell(7, 0), hour % 6 == 0 ? -1 : 0);
            due("not beyond, hour " + hour, x.cell(8, 0), 0);
        }
        PrintShore y = shoreOf("walker at 1;horse at 1 stride 2");
        y.go(5);
        y.reach(24);
        // In the 6th hour the walker comes to 7 and the horse to 13; of the horse's 9 and 11 stand too.
        due("the prints of the 6th hour meet its tide", y.go(1), 3);
        due("a light one is gone", y.cell(7, 0), -1);
        due("a heavy one is worn", y.cell(13, 1), 7);
        due("then they are gone", y.tide(), 3);
        PrintShore z = shoreOf("walker at 20;print 0 0 9");
        due("go over two tides", z.go(12), z.now(1));
        due("each wears it", z.cell(0, 1), 7);
        z.go(5);
        due("not yet", z.cell(0, 1), 7);
        z.go(1);
        due("gone", z.cell(0, 0), -1);
    }

    /** No 512 calls come to hour 99999; this looks at the bound all the same. */
    private static void hourStopsAtItsBound() {
        PrintShore x = shoreOf("walker at 3;child at 7");
        for (int i = 0; i < 1666; i++) {
            x.go(60);
        }
        due("hour", x.now(0), 99960);
        due("beyond before state", x.go(61), BEYOND);
        due("beyond before state", x.tides(21), BEYOND);
        due("state", x.go(40), STATE);
        due("state", x.go(60), STATE);
        due("tides to 99980", x.tides(20) >= 0 ? 1 : 0, 1);
        x.seed(5);
        x.image();
        due("state by one", x.go(20), STATE);
        due("state by one", x.tides(20), STATE);
        due("nothing was drawn", x.count(6), 5);
        due("nothing went by", x.now(0), 99980);
        due("the last hours by draws", x.tides(19) >= 0 ? 1 : 0, 1);
        due("the greatest hour", x.now(0), 99999);
        due("back", x.undo(), 99980);
        due("the last hours", x.go(19) >= 0 ? 1 : 0, 1);
        due("the greatest hour", x.now(0), 99999);
        due("state by one", x.go(1), STATE);
        due("state by one", x.tides(1), STATE);
        due("beyond before state", x.go(0), BEYOND);
        due("beyond before state", x.tides(0), BEYOND);
        due("counted", x.status(4), 6);
        due("looks ahead go on", x.work(0, 100) >= 0 ? 1 : 0, 1);
        due("hour", x.now(0), 99999);
    }

    // ---- promises 10 to 16

    private static void nowOfNothingAndOfAll() {
        PrintShore x = new PrintShore();
        int[] none = {0, 0, 0, 0, 0, -1, 0};
        for (int what = 0; what <= 6; what++) {
            due("now of nothing " + what, x.now(what), none[what]);
        }
        x.walker(WALKER, 0);
        due("the greatest work of one, though empty", x.now(5), 0);
        for (int i = 1; i < 8; i++) {
            x.walker(WALKER, 0);
        }
        due("of several the least", x.now(5), 0);
        for (int cell = 0; cell < 24; cell++) {
            x.print(cell, cell % 8, 9);
        }
        due("of several the least", x.now(5), 0);
        due("all prints", x.now(1), 24);
        due("all cells", x.now(3), ALL);
        due("depths of all together", x.now(4), 216);
        x.print(0, 7, 0);
        due("the greatest", x.now(5), 7);
        x.print(1, 6, 0);
        due("6 and 7 have four each: the least", x.now(5), 6);
        x.print(23, -1, 0);
        due("one less", x.now(1), 23);
        due("one less", x.now(3), ALL >> 1);
    }

    private static void linesFromEndToEnd() {
        PrintShore x = shoreOf("walker;walker");
        due("no line", x.line(0), 0);
        x.print(0, 0, 1);
        due("a line of one at 0", x.line(0), 1);
        x.print(23, 0, 1);
        due("the ends are no neighbours", x.line(0), 1);
        x.print(22, 0, 1);
        due("a line to 23", x.line(0), 2);
        x.print(2, 0, 1);
        x.print(1, 1, 9);
        due("another's print parts it", x.line(0), 2);
        x.print(1, 0, 0);
        due("a line from 0", x.line(0), 3);
        for (int cell = 3; cell < 22; cell++) {
            x.print(cell, 0, 1);
        }
        due("all that it is", x.line(0), 24);
        due("none of the other", x.line(1), 0);
    }

    /** What looks ahead say from 0 to 100 hours is what then is. */
    private static void aheadIsWhatComes() {
        String text = "runner at 3 stride 2;horse at 20 out stride 5;thief at 11 weight 9;child at 4 out";
        for (int n = 0; n <= 100; n++) {
            PrintShore x = shoreOf(text);
            PrintShore y = shoreOf(text);
            for (int left = n; left > 0; left -= 60) {
                y.go(Math.min(60, left));
            }
            for (int cell = 0; cell < 24; cell++) {
                for (int what = 0; what <= 2; what++) {
                    due("ahead " + n, x.ahead(cell, what, n), y.cell(cell, what));
                }
            }
            for (int walker = 0; walker < 4; walker++) {
                due("work " + n, x.work(walker, n), Integer.bitCount(y.of(walker, 9)));
            }
            due("nothing changed", x.now(0) + x.now(1) + x.now(6), 0);
        }
    }

    private static void behindTwoHundredHours() {
        PrintShore x = shoreOf("reach 23;child at 19 out;child at 9 out stride 2;thief at 16");
        due("when: behind 202 is too late", x.when(0, 5), NONE);
        x.go(1);
        due("when: behind 201 is too late", x.when(0, 5), NONE);
        x.go(1);
        due("when: behind 200", x.when(0, 5), 200);
        for (int i = 199; i >= 1; i--) {
            x.go(1);
            due("when: not yet", x.cell(5, 0) == 0 ? 1 : 0, 0);
        }
        due("when: behind 1", x.when(0, 5), 1);
        x.go(1);
        due("when: now", x.when(0, 5), 0);
        due("when: it is so", x.cell(5, 0), 0);
        due("none is counted", x.status(3), 2);
        PrintShore y = shoreOf("reach 24;horse at 2 out stride 5;walker at 12 stride 5 weight 9");
        y.go(15);
        due("gone: behind 201 is too late", y.gone(0), NONE);
        y.go(1);
        due("gone: behind 200", y.gone(0), 200);
        y.go(60);
        due("gone: behind 140", y.gone(0), 140);
        y.go(60);
        y.go(60);
        y.go(19);
        due("gone: behind 1", y.gone(0), 1);
        y.go(1);
        due("gone: now", y.gone(0), 0);
    }

    private static void whenAndGoneNow() {
        PrintShore x = shoreOf("walker at 3;walker at 20");
        due("a cell without a print is gone now", x.gone(0), 0);
        due("gone before it is printed", x.gone(4), 0);
        // 20 hours to 23, one to turn there, 20 back.
        due("when: not where it stands", x.when(0, 3), 41);
        x.print(3, 0, 0);
        due("when: now", x.when(0, 3), 0);
        due("gone: by the first tide", x.gone(3), 6);
        x.go(5);
        due("gone: by the next hour's tide", x.gone(3), 1);
        x.print(3, 0, 9);
        due("gone: by the third tide", x.gone(3), 13);
        x.reach(3);
        due("gone: beyond the reach never", x.gone(3), NONE);
        x.reach(4);
        due("gone: the last cell of the reach", x.gone(3), 13);
    }

    private static void meetNowAndNever() {
        PrintShore x = shoreOf("walker at 3;walker at 3;walker at 5 out;walker at 6 out");
        due("two at one cell now", x.meet(0, 1), 0);
        due("the one and the other", x.meet(1, 0), 0);
        due("behind 1", x.meet(0, 2), 1);
        due("behind 1", x.meet(2, 1), 1);
        due("they pass one another for ever", x.meet(0, 3), NONE);
        due("one and the same", x.meet(3, 3), BEYOND);
        x.go(1);
        due("met", x.meet(0, 2), 0);
        due("nothing printed is asked for", x.meet(0, 1), 0);
    }

    // ---- promises 17 to 26

    private static void ofSeveralTheLeast() {
        PrintShore x = shoreOf("carter at 8 stride 5");
        due("stride: all alike", x.strideFor(0, 5), 1);
        due("stride: all alike at 0", x.strideFor(0, 0), 1);
        due("start: all alike at 0", x.start(0, 0), 0);
        due("kind: all alike at 0", x.kindFor(0, 0), 0);
        x.print(23, 0, 1);
        due("start: from 22 and 23 alone it comes upon its own print", x.start(0, 1), 0);
        x.print(1, 0, 1);
        due("start: from 0 too now", x.start(0, 1), 1);
        due("as it was", x.of(0, 0) * 100 + x.of(0, 1) * 10 + x.of(0, 3), 285);
        // From 0 with 6 in 4 hours 6 12 18 23, with 5 5 10 15 20: all have four.
        due("stride: of several the least", shoreOf("walker").strideFor(0, 4), 1);
        // A 5th hour: stride 6 comes back by 17, the others go on: 5 comes to 23.
        due("stride: of several the least", shoreOf("walker").strideFor(0, 5), 1);
        due("censor: of several the least", shoreOf("walker;walker").censor(0), 0);
        due("censor: of several the least", shoreOf("walker at 4;walker at 4").censor(1), 0);
        due("censor: the only one", shoreOf("walker").censor(40), 0);
    }

    private static void censorsOfManyQuoters() {
        // Seven go where nobody was; the one that quoter tells goes from 20 upon a print of another.
        for (int quoter = 0; quoter < 8; quoter++) {
            PrintShore x = new PrintShore();
            for (int i = 0; i < 8; i++) {
                x.walker(WALKER, i == quoter ? 20 : 2 * i);
            }
            x.print(21, (quoter + 1) % 8, 0);
            due("censor: not yet, the least", x.censor(0), 0);
            due("censor: who quotes", x.censor(1), quoter);
            due("nothing changed", x.now(0) + x.now(2), 0);
        }
        PrintShore x = shoreOf("walker at 1;walker at 10;walker at 11");
        due("censor: 2 is quoted by 1 each hour: 1 and 2 alike", x.censor(3), 1);
        // Each treads its own deep print down, and the tide takes it before the other one comes: none is quoted.
        // Whoever stays away leaves it to the other one; it has to be one of the two all the same.
        PrintShore y = new PrintShore();
        y.go(5);
        read(y, "thief at 3;thief at 6 out;print 4 0 9;print 5 1 9;reach 24");
        due("censor: nobody away would be better, of the two the least", y.censor(2), 0);
        y.go(2);
        due("none was quoted", y.now(2), 0);
    }

    private static void greatestStrideCellAndKind() {
        // The tide of the 6th hour with a reach of 24 takes all but what a heavy kind left.
        PrintShore x = shoreOf("reach 24;walker at 2 weight 4");
        due("kind: a horse presses 8", x.kindFor(0, 6), HORSE);
        PrintShore z = new PrintShore();
        z.walker(WALKER, 0);
        z.change(0, 2, 0);
        z.change(0, 3, 6);
        for (int cell = 0; cell <= 16; cell++) {
            z.print(cell, 0, 0);
        }
        // Out by 6: from 23 to 17 is the only cell of which it has no print.
        due("start: the greatest cell", z.start(0, 1), 23);
        PrintShore w = new PrintShore();
        w.walker(WALKER, 0);
        w.walker(WALKER, 0);
        for (int cell = 1; cell <= 5; cell++) {
            w.print(cell, 0, 0);
        }
        due("stride: the greatest", w.strideFor(0, 1), 6);
        // 1 to 7 are its own but 6, to which a kind must stride: runner 2 * 3.
        PrintShore v = shoreOf("walker stride 3;print 1 0 0;print 2 0 0;print 3 0 0;print 4 0 0");
        due("kind: the greatest", v.kindFor(0, 1), RUNNER);
    }

    private static void reachesAndWeights() {
        PrintShore x = shoreOf("walker at 12 out;print 0 0 7;print 23 0 7;print 22 0 8");
        due("reach: the greatest where none is asked", x.reachFor(0, 0), 24);
        due("reach: none at all", x.reachFor(1, 0), NONE);
        due("reach: the least", x.reachFor(0, 6), 0);
        due("reach: one below the greatest", x.reachFor(23, 6), 23);
        due("reach: one tide spares 8", x.reachFor(22, 6), 24);
        due("reach: two do not", x.reachFor(22, 12), 22);
        due("reach: not within five hours", x.reachFor(0, 5), 24);
        due("reach as it was", x.reach(8), 8);
        PrintShore y = shoreOf("walker at 2;child at 2;print 1 0 1");
        due("weight: the least where none is asked", y.weightFor(0, 1, 0), 1);
        due("weight: none", y.weightFor(0, 3, 0), NONE);
        due("weight: another comes over it", y.weightFor(0, 3, 1), NONE);
        due("weight: what was there goes by the tide", y.weightFor(0, 1, 6), NONE);
        PrintShore z = shoreOf("walker at 2");
        due("weight: before the tide the least", z.weightFor(0, 3, 5), 1);
        due("weight: a tide", z.weightFor(0, 3, 6), 8);
        due("weight: two tides, the greatest", z.weightFor(0, 3, 12), 9);
        due("weight: three tides, none", z.weightFor(0, 3, 18), NONE);
        due("weight as it was", z.of(0, 4), 4);
    }

    private static void awayNoneOneAndAll() {
        PrintShore x = new PrintShore();
        due("nobody to keep away", x.away(23, 20), 0);
        for (int i = 0; i < 8; i++) {
            x.walker(WALKER, 11);
        }
        due("now it is as now", x.away(12, 0), 0);
        due("all of them", x.away(12, 1), 255);
        due("the last one's print stays its own", away(7), 0);
        due("all behind it", away(6), 1 << 7);
        due("all behind it", away(0), 254);
        due("the tide takes it, whoever stays away", away(0, 0, 6), NONE);
        due("the tide takes none before", away(0, 0, 5), 0);
        due("nothing changed", x.now(0) + x.now(1), 0);
        PrintShore y = shoreOf("walker at 11;walker at 10;walker at 9;print 12 1 9");
        due("away behind 1", y.away(12, 1), 1);
        due("away behind 2: its own again", y.away(12, 2), 0);
        due("away behind 3", y.away(12, 3), 4);
    }

    private static int away(int whose) {
        PrintShore x = new PrintShore();
        for (int i = 0; i < 8; i++) {
            x.walker(WALKER, 11);
        }
        x.print(12, whose, 9);
        return x.away(12, 1);
    }

    private static int away(int cell, int depth, int n) {
        PrintShore x = shoreOf("walker at 20");
        x.print(cell, 0, depth);
        return x.away(cell, n);
    }

    private static void guessesBySheets() {
        PrintShore x = shoreOf("walker at 0;walker at 20");
        int[] any = new int[40];
        java.util.Arrays.fill(any, -1);
        fill(x, 0, 8, any);
        guess(x, "any everywhere", 6, 1, 127);
        fill(x, 0, 8, new int[] {});
        guess(x, "a sheet of no numbers", 6, 1, 127);
        int[] behind = any.clone();
        java.util.Arrays.fill(behind, 24, 40, 1);
        fill(x, 0, 8, behind);
        guess(x, "beyond the first 24 nothing is asked", 6, 1, 127);
        behind[23] = 1;
        fill(x, 0, 8, behind);
        guess(x, "the 24th is asked", 0, NONE, 0);
        behind[23] = 0;
        fill(x, 0, 8, behind);
        guess(x, "the 24th has none of it", 6, 1, 127);
        // Behind an hour a stride is its cell; a horse comes to 1, a rider to 3, a runner to 2.
        fill(x, 0, 8, new int[] {0, 0, 0, 0, 0, 0, 1});
        guess(x, "the greatest stride alone", 1, 6, 0);
        fill(x, 0, 8, new int[] {0, 1});
        guess(x, "the least stride alone", 1, 1, 1 << WALKER | 1 << CHILD | 1 << CARTER | 1 << HORSE | 1 << THIEF);
        fill(x, 0, 8, new int[] {-1, 0});
        guess(x, "all strides but the least", 5, 2, 1 << RIDER | 1 << RUNNER);
        fill(x, 0, 8, new int[] {0, 0, 1, 0});
        guess(x, "a runner alone", 1, 2, 1 << RUNNER);
        fill(x, 0, 8, new int[] {1});
        guess(x, "none", 0, NONE, 0);
        fill(x, 0, 8, new int[] {-1, 2});
        guess(x, "2 is never so", 0, NONE, 0);
        fill(x, 0, 8, new int[] {-1, -2});
        guess(x, "-2 is never so", 0, NONE, 0);
        // Of 8 bits 255 is -1, and 257 is 1; of 16 they aren't.
        fill(x, 0, 8, new int[] {255, 257});
        guess(x, "numbers with their sign", 1, 1, 1 << WALKER | 1 << CHILD | 1 << CARTER | 1 << HORSE | 1 << THIEF);
        fill(x, 0, 16, new int[] {255});
        guess(x, "255 of 16 bits", 0, NONE, 0);
        fill(x, 0, 16, new int[] {65535, 65537});
        guess(x, "numbers with their sign", 1, 1, 1 << WALKER | 1 << CHILD | 1 << CARTER | 1 << HORSE | 1 << THIEF);
        fill(x, 0, 32, new int[] {65535});
        guess(x, "65535 of 32 bits", 0, NONE, 0);
        due("another's print is none of it", another().fits(0, 0, 0), 6);
        due("another's print is none of it", another().fits(0, 1, 0), 0);
    }

    private static PrintShore another() {
        PrintShore x = shoreOf("walker;walker;print 0 1 5");
        fill(x, 0, 8, new int[] {0});
        return x;
    }

    private static void guess(PrintShore x, String told, int fits, int strode, int kinds) {
        due("fits: " + told, x.fits(0, 0, 1), fits);
        due("strode: " + told, x.strode(0, 0, 1), strode);
        due("kinds: " + told, x.kinds(0, 0, 1), kinds);
        due("as it was", x.of(0, 0) * 100 + x.of(0, 3) * 10 + x.now(0), 10);
    }

    // ---- promises 27 to 29

    private static int next(int z) {
        return z * 1103515245 + 12345;
    }

    private static int seedFor(int reach, int walker) {
        for (int z = 1; z < 1000000; z++) {
            int first = next(z);
            if ((first >>> 8) % 25 == reach && (next(first) >>> 8) % 8 == walker && first < 0) {
                return z;
            }
        }
        return 0;
    }

    private static void drawnTides() {
        int[][] rows = {{0, 0}, {24, 0}, {0, 7}, {24, 7}, {12, 3}};
        for (int[] row : rows) {
            int z = seedFor(row[0], row[1]);
            for (int walkers = 0; walkers <= 8; walkers++) {
                PrintShore x = new PrintShore();
                for (int i = 0; i < walkers; i++) {
                    x.walker(WALKER, 4);
                }
                String told = "reach " + row[0] + ", walker " + row[1] + " of " + walkers;
                due(told, x.seed(z), 1);
                due(told + ": prints", x.tides(1), walkers == 0 ? 0 : walkers > row[1] && walkers > 1 ? 2 : 1);
                due(told + ": reach", x.reach(3), row[0]);
                due(told + ": z", x.count(6), next(next(z)));
                due(told + ": hour", x.now(0), 1);
                for (int i = 0; i < walkers; i++) {
                    due(told + ": stride of " + i, x.of(i, 3), i == row[1] ? 2 : 1);
                    due(told + ": cell of " + i, x.of(i, 1), i == row[1] ? 6 : 5);
                }
            }
        }
        PrintShore x = shoreOf("walker at 4 stride 5");
        x.seed(seedFor(24, 0));
        x.tides(1);
        due("stride to 6", x.of(0, 3), 6);
        due("it goes 6 in that hour", x.of(0, 1), 10);
        x.seed(seedFor(24, 0));
        x.tides(1);
        due("6 at most", x.of(0, 3), 6);
        PrintShore y = shoreOf("walker at 4");
        y.go(5);
        y.seed(seedFor(0, 1));
        due("the drawn reach of 0 is that of its tide", y.tides(1), 6);
        PrintShore v = shoreOf("walker at 4");
        v.go(5);
        v.seed(seedFor(24, 1));
        due("the drawn reach of 24 is that of its tide", v.tides(1), 0);
        PrintShore w = new PrintShore();
        due("20 at most", w.tides(20), 0);
        due("20 hours", w.now(0), 20);
    }

    private static void oddsInLowestTerms() {
        PrintShore x = new PrintShore();
        for (int cell = 0; cell < 24; cell++) {
            boolean cut = (cell + 1) % 5 == 0;
            long above = 1;
            long below = 1;
            for (int n = 0; n <= 12; n++) {
                due("odds of " + cell + " by " + n + ": above", x.odds(cell, n, 0), above);
                due("odds of " + cell + " by " + n + ": below", x.odds(cell, n, 1), below);
                above *= cut ? (cell + 1) / 5 : cell + 1;
                below *= cut ? 5 : 25;
            }
            if (cell == 11) {
                x = new PrintShore();
            }
        }
        due("nothing is drawn", x.count(6), 1);
    }

    private static void seedsOfAnySize() {
        PrintShore x = new PrintShore();
        int[] seeds = {LEAST, MOST, -1, 0, BEYOND, BEYOND - 6};
        int before = 1;
        for (int z : seeds) {
            due("what it was", x.seed(z), before);
            due("z", x.count(6), z);
            x.tides(1);
            before = next(next(z));
            due("z wraps around", x.count(6), before);
            due("reach of a draw that isn't negative", x.reach(8), (next(z) >>> 8) % 25);
        }
        due("no finding", x.status(-1), 0);
    }

    // ---- promises 30 to 32

    private static void tapeEmptyAndFull() {
        PrintShore x = new PrintShore();
        due("empty at first", x.wipe(), 0);
        due("a text of an empty tape: ends at 0", x.text(), -1);
        for (int n = 1; n <= 4; n++) {
            x.wipe();
            for (int size = n; size <= 120; size += n) {
                due("it has", x.feed(0x20202020, n), size);
            }
            due("120 at most", x.feed(0x20202020, n), FULL);
            due("120 at most", x.count(5), 120);
        }
        due("a text of blanks alone ends at its end", x.text(), -121);
        due("empty then", x.count(5), 0);
        for (int n = 2; n <= 4; n++) {
            x.wipe();
            for (int size = 1; size <= 121 - n; size++) {
                x.feed(0x20, 1);
            }
            due("one too many", x.feed(0x20202020, n), FULL);
            due("nothing of it came", x.count(5), 121 - n);
            due("one less fits", x.feed(0x20202020, n - 1), 120);
            x = new PrintShore();
        }
        due("other bytes than the lowest are left", x.feed(0xffffff72, 1), 1);
        due("the highest of them first", x.feed(0x99996561, 2), 3);
        due("the highest of them first", x.feed(0x88636820, 3), 6);
        due("the highest of them first", x.feed(0x32203b20, 4), 10);
        due("reach 2 ; ends too early", x.text(), -11);
        x.feed(0x72656163, 4);
        x.feed(0x68202032, 4);
        due("read", x.text(), 1);
        due("read", x.reach(0), 2);
        due("a negative number's bytes", x.feed(-1, 4), 4);
        due("begin no token", x.text(), -1);
        due("the least number's bytes", x.feed(LEAST, 4), 4);
        due("wiped", x.wipe(), 4);
    }

    /** Texts, each with the items it has, or -1 less its fault: the last number that is taken and the first that isn't. */
    private static final Object[][] TEXTS = {
        {"walker at 0", 1}, {"walker at 23", 1}, {"walker at 24", -11}, {"walker at 999", -11}, {"walker at 1000", -11},
        {"walker at 000000023", 1}, {"walker at 4294967296", -11}, {"walker at 18446744073709551616", -11},
        {"walker stride 1", 1}, {"walker stride 6", 1}, {"walker stride 0", -15}, {"walker stride 7", -15},
        {"walker weight 1", 1}, {"walker weight 9", 1}, {"walker weight 0", -15}, {"walker weight 10", -15},
        {"reach 0", 1}, {"reach 24", 1}, {"reach 25", -7}, {"reach 999", -7}, {"reach 1000", -7}, {"reach 0000000000000024", 1},
        {"walker;print 0 0 0", 2}, {"walker;print 23 0 9", 2}, {"walker;print 24 0 0", -14}, {"walker;print 0 1 0", -16},
        {"walker;print 0 0 10", -18}, {"print 0 0 0", -9}, {"print 0 0 0;walker", -9}, {"walker;walker;print 0 1 0 out", 3},
        {"walker at 3 out stride 2 weight 5", 1}, {"walker out weight 5", 1}, {"walker at", -10}, {"walker at ", -11},
        {"walker stride", -14}, {"walker weight", -14}, {"walker at;", -10}, {"walker at 3 at 3", -13}, {"walker out at 3", -12},
        {"walker stride 2 out", -17}, {"walker weight 2 stride 2", -17}, {"walker out out", -12}, {"walker at out", -11},
        {"reach", -6}, {"reach ;", -7}, {"reach 3 3", -9}, {"reach 3 out", -9}, {"reach out", -7}, {"print", -6},
        {"walker;print 0", -15}, {"walker;print 0 0", -17}, {"walker;print 0 0 0 out out", -24}, {"walker;print 0 0 0 in", -20},
        {"walker;print out", -14}, {"", -1}, {" ", -2}, {";", -1}, {"walker;", -8}, {"walker ; ", -10}, {"walker;;walker", -8},
        {" walker ; child ", 2}, {"walker;child;carter;horse;rider;thief;runner", 7}, {"walkerat3out stride2weight9", -1},
        {"walker at3out stride2weight9", 1}, {"walker at 3out", 1}, {"reach3", 1}, {"reach3;walker at4;print5 0 6out", 3},
        {"walkers", -1}, {"walkerz", -1}, {"walkera", -1}, {"zwalker", -1}, {"walke", -1}, {"talker", -1}, {"shild", -1},
        {"teach 3", -1}, {"sprint", -1}, {"walker;grint 0 0 0", -8}, {"walker it 3", -8}, {"walker but", -8}, {"walker stripe 1", -8},
        {"walker freight 1", -8}, {"walker;print 0 0 0 our", -20}, {"Walker", -1}, {"walkeR", -1}, {"at 3", -1}, {"out", -1}, {"3", -1}, {"walker 3", -8},
        {"walker walker", -8}, {"walker at 2 3", -13}, {"walker at -1", -11}, {"walker at +1", -11}, {"walker\tout", -7},
        {"walker\nout", -7}, {"walker,child", -7}, {"\u00e9", -1}, {"walker \u0000", -8}, {"walker at 2 \u00ff", -13},
        {"walker at `", -11}, {"walker at {", -11}, {"walker at /", -11}, {"walker at :", -11}, {"walker at 2:", -12},
        {"child;child;child;child;child;child;child;child", 8}, {"child;child;child;child;child;child;child;child; child", -50},
        {"child;child;child;child;child;child;child;child;childs", -49},
        {"child;child;child;child;child;child;child;child;reach 9", 9}};

    private static void textsAtTheirEdges() {
        for (Object[] row : TEXTS) {
            String text = (String) row[0];
            int want = (Integer) row[1];
            PrintShore x = new PrintShore();
            x.image();
            due("text '" + text + "'", read(x, text), want);
            due("the tape is empty behind '" + text + "'", x.count(5), 0);
            due("no finding behind '" + text + "'", x.status(-1), 0);
            if (want < 0) {
                due("nothing of '" + text + "'", x.count(1) + x.count(2), 0);
                due("nothing of '" + text + "'", x.reach(8), 8);
            }
        }
    }

    private static void whatTextsTell() {
        PrintShore x = shoreOf("walker;walker at 23 out stride 6 weight 9;thief weight 1;rider out");
        int[][] told = {{0, 0, 1, 1, 4, 0}, {0, 23, 0, 6, 9, 0}, {5, 0, 1, 1, 1, 0}, {4, 0, 0, 1, 4, 0}};
        for (int walker = 0; walker < 4; walker++) {
            for (int what = 0; what <= 5; what++) {
                due("without a word as at first: " + walker + ", " + what, x.of(walker, what), told[walker][what]);
            }
        }
        due("item by item", read(x, "print 5 2 9 out;print 6 1 0;reach 3;print 5 3 2;reach 24"), 5);
        due("the later one", x.cell(5, 0), 3);
        due("toward in, whatever its way", x.cell(5, 2), 1);
        due("toward in, whatever its way", x.cell(6, 2), 1);
        due("the later one", x.reach(0), 24);
        due("texts quote nothing", x.now(2), 0);
        read(x, "print 5 2 9 out");
        due("toward out, though a thief's", x.cell(5, 2), 0);
        due("eight with what was there", read(x, "child;child;child;child"), 4);
        due("a 9th with what was there", read(x, "child"), -1);
        due("the others stay", x.count(1), 8);
        due("the last one is there", read(x, "print 0 7 0"), 1);
        due("no 9th is", read(x, "print 0 8 0"), -9);
        due("three digits and more", read(x, "reach 00000000000000000000000000000000000000000000000000000007"), 1);
        due("three digits and more", x.reach(1), 7);
        StringBuilder full = new StringBuilder("reach 5");
        while (full.length() < 113) {
            full.append(' ');
        }
        due("a text of 120 bytes", read(x, full + ";reach9"), 2);
        due("its last byte is read", x.reach(1), 9);
        due("a fault at its last byte", read(x, full + ";reach;"), -120);
        due("it ends too early", read(x, full + ";reach "), -121);
        due("nothing changed", x.reach(1), 1);
    }

    // ---- promises 33 to 39

    private static final int[][] UNDER = {{1, 0, 0, 0, 0, 0, 0}, {1, 1, 0, 0, 0, 0, 0}, {1, 0, 1, 0, 0, 0, 0},
        {1, 0, 1, 1, 0, 0, 0}, {1, 0, 1, 1, 1, 0, 0}, {1, 0, 0, 0, 0, 1, 0}, {1, 1, 0, 0, 0, 0, 1}};

    private static void spotsEmptyAndFull() {
        PrintShore x = shoreOf("walker;child;carter;horse;rider;thief;runner;runner");
        for (int spot = 0; spot <= 9; spot++) {
            due("nothing at first", x.as(spot, 0), MISSING);
            due("hold", x.hold(spot, Math.min(spot, 7)), 1);
            due("so many hold", x.count(7), spot + 1);
        }
        for (int spot = 0; spot <= 6; spot++) {
            for (int kind = 0; kind <= 6; kind++) {
                due(spot + " as " + kind, x.as(spot, kind), UNDER[spot][kind] == 1 ? spot : BEYOND - 2);
            }
        }
        due("one in several spots", x.as(9, RUNNER), 7);
        due("hold another one", x.hold(9, 0), 1);
        due("ten still", x.count(7), 10);
        due("the other one", x.as(9, WALKER), 0);
        due("hold nothing", x.hold(9, -1), 1);
        due("nothing again", x.hold(9, -1), 1);
        due("nine", x.count(7), 9);
        due("missing", x.as(9, WALKER), MISSING);
        x.change(0, 0, RUNNER);
        due("of a kind as it is now", x.as(0, CHILD), 0);
    }

    private static void sheetsEmptyAndFull() {
        PrintShore x = shoreOf("walker;walker");
        for (int s = 0; s <= 3; s++) {
            due("missing at first", x.judge(s), MISSING);
            due("n", x.sheet(s, 8, 0), 0);
            due("of no numbers it isn't missing", x.judge(s), 0);
            due("no numbers become strides", x.load(s), 0);
            due("no numbers are copied", x.copy(s, 0, s, 0, 0), 0);
            due("n", x.sheet(s, s == 3 ? 32 : 8 << s % 2, 40), 40);
            due("the last number", x.write(s, 39, 1), 1);
            due("all of them", x.copy(s, 0, s, 0, 40), 40);
        }
        due("missing again: 0", x.sheet(1, 0, 40), 0);
        due("missing again", x.load(1), MISSING);
        due("the others stay", x.copy(0, 0, 2, 0, 40), 40);
        due("missing twice", x.sheet(1, 0, 0), 0);
        x.sheet(1, 8, 2);
        x.print(0, 0, 1);
        x.print(1, 0, 1);
        due("anew all is 0", x.judge(1), 0);
        x.write(1, 0, 1);
        x.write(1, 1, 1);
        x.sheet(1, 8, 2);
        due("anew all is 0", x.judge(1), 0);
        x.write(1, 1, 1);
        x.sheet(1, 8, 1);
        x.sheet(1, 8, 2);
        due("nothing is left of longer ones", x.judge(1), 0);
    }

    private static void numbersOfSoManyBits() {
        PrintShore x = shoreOf("walker;walker;walker");
        // What is written, of how many bits, and what it is then: -1 to 2 can be judged.
        int[][] rows = {{255, 8, -1}, {256, 8, 0}, {257, 8, 1}, {-255, 8, 1}, {-257, 8, -1}, {65535, 8, -1}, {LEAST, 8, 0}, {MOST, 8, -1},
            {65535, 16, -1}, {65536, 16, 0}, {65537, 16, 1}, {-65535, 16, 1}, {-65537, 16, -1}, {MOST, 16, -1}, {LEAST, 16, 0},
            {-1, 32, -1}, {2, 32, 2}, {0x10002, 16, 2}, {0x102, 8, 2}};
        for (int[] row : rows) {
            x.sheet(0, row[1], 1);
            x.write(0, 0, row[0]);
            x.print(0, row[2], 0);
            due(row[0] + " of " + row[1] + " bits is " + row[2], x.judge(0), 0);
        }
        int[][] none = {{127, 8}, {128, 8}, {-128, 8}, {255, 16}, {256, 16}, {32767, 16}, {32768, 16}, {-255, 16}, {65535, 32},
            {65536, 32}, {LEAST, 32}, {MOST, 32}, {-65535, 32}};
        for (int[] row : none) {
            x.sheet(0, row[1], 1);
            x.write(0, 0, row[0]);
            for (int v = -1; v <= 2; v++) {
                x.print(0, v, 0);
                due(row[0] + " of " + row[1] + " bits isn't " + v, x.judge(0), 1);
            }
        }
    }

    private static void copiesAsTheyAllWere() {
        PrintShore x = shoreOf("walker;walker;walker;walker;walker;walker");
        fill(x, 0, 8, new int[] {1, 2, 3, 4, 5, 6});
        due("forward upon itself", x.copy(0, 0, 0, 1, 5), 5);
        strides(x, 112345);
        due("back upon itself", x.copy(0, 1, 0, 0, 5), 5);
        strides(x, 123455);
        due("upon its own place", x.copy(0, 0, 0, 0, 6), 6);
        strides(x, 123455);
        fill(x, 1, 8, new int[] {6, 6, 6});
        due("from the last", x.copy(1, 2, 0, 5, 1), 1);
        strides(x, 123456);
        due("to the first", x.copy(1, 0, 0, 0, 3), 3);
        strides(x, 666456);
        due("none from the end to the end", x.copy(1, 3, 0, 6, 0), 0);
        strides(x, 666456);
        due("one sheet to another leaves the first", x.copy(0, 3, 1, 0, 3), 3);
        due("both the same", x.copy(1, 0, 0, 3, 3), 3);
        strides(x, 666456);
    }

    private static void strides(PrintShore x, int want) {
        due("all six are strides", x.load(0), 6);
        int got = 0;
        for (int walker = 0; walker < 6; walker++) {
            got = got * 10 + x.of(walker, 3);
        }
        due("numbers", got, want);
    }

    private static void loadsToTheFirstThatCant() {
        PrintShore x = shoreOf("walker;walker;walker");
        for (int v : new int[] {0, 7, -1, LEAST, MOST, 257, 99}) {
            fill(x, 0, 32, new int[] {1, v, 2});
            due("load ends at " + v, x.load(0), 1);
            due("the one before came", x.of(0, 3), 1);
            fill(x, 0, 32, new int[] {v, 6, 6});
            due("load ends at once at " + v, x.load(0), 0);
            fill(x, 0, 32, new int[] {6, 6, v});
            due("load ends at the last " + v, x.load(0), 2);
            due("two came", x.of(0, 3) * 100 + x.of(1, 3) * 10 + x.of(2, 3), 661);
            x.change(1, 3, 1);
        }
        fill(x, 0, 8, new int[] {1, 6, 1});
        due("as many as there are", x.load(0), 3);
        fill(x, 0, 8, new int[] {2, 3, 4, 5});
        due("no 4th walker", x.load(0), 3);
        due("three came", x.of(0, 3) * 100 + x.of(1, 3) * 10 + x.of(2, 3), 234);
        PrintShore none = new PrintShore();
        fill(none, 0, 8, new int[] {1});
        due("no walker at all", none.load(0), 0);
        PrintShore eight = shoreOf("child;child;child;child;child;child;child;child");
        eight.sheet(0, 8, 40);
        for (int i = 0; i < 40; i++) {
            eight.write(0, i, 6);
        }
        due("eight at most", eight.load(0), 8);
        due("the 8th came", eight.of(7, 3), 6);
        due("no finding", eight.status(-1) + x.status(-1), 0);
    }

    private static void judgedToTheFirstThatIsnt() {
        PrintShore x = new PrintShore();
        int[] none = new int[40];
        java.util.Arrays.fill(none, -1);
        fill(x, 0, 8, java.util.Arrays.copyOf(none, 24));
        due("24 of none", x.judge(0), 0);
        x.walker(WALKER, 0);
        x.print(23, 0, 0);
        due("the last isn't so", x.judge(0), 24);
        x.print(0, 0, 0);
        due("the first isn't so, nor the last", x.judge(0), 1);
        x.write(0, 0, 0);
        x.write(0, 23, 0);
        due("so", x.judge(0), 0);
        fill(x, 1, 8, java.util.Arrays.copyOf(none, 25));
        x.write(1, 0, 0);
        x.write(1, 23, 0);
        due("there is no cell 24", x.judge(1), 25);
        x.write(1, 23, 1);
        due("the first that isn't so", x.judge(1), 24);
        fill(x, 2, 32, new int[] {});
        due("a sheet of no numbers is so", x.judge(2), 0);
    }

    // ---- promises 40 to 44

    private static void imagesOfAllButTapeAndSheets() {
        PrintShore x = new PrintShore();
        due("nothing is kept", x.tear(), 0);
        due("kept", x.image(), 1);
        read(x, "walker at 3 stride 2;thief at 20 out;print 0 0 9;reach 24");
        x.seed(99);
        x.hold(9, 1);
        x.go(13);
        fill(x, 3, 8, new int[] {1, 2});
        x.feed(0x20202020, 4);
        due("it becomes a new one: hour", x.undo(), 0);
        due("no walkers", x.count(1), 0);
        due("no prints", x.count(2), 0);
        due("no quotes", x.count(3), 0);
        due("z", x.count(6), 1);
        due("no spots", x.count(7), 0);
        due("reach", x.reach(8), 8);
        due("the tape stays", x.count(5), 4);
        due("the sheet stays", x.write(3, 1, 2), 1);
        due("the old spot is of nobody", x.as(9, 0), MISSING);
        due("the next walker is 0 again", x.walker(CHILD, 5), 0);
        due("as at first", x.of(0, 3) * 10 + x.of(0, 2), 11);
        due("what is kept stays", x.undo(), 0);
        due("what is kept stays", x.count(1), 0);
        x.walker(CHILD, 5);
        x.go(60);
        due("the latest is kept", x.image(), 1);
        x.go(1);
        due("hour", x.undo(), 60);
        due("hour", x.undo(), 60);
        due("one walker", x.count(1), 1);
        due("something was kept", x.tear(), 1);
        due("nothing is", x.tear(), 0);
        due("nothing is", x.undo(), NONE);
        due("as it was", x.now(0), 60);
        due("kept anew", x.image(), 1);
        due("hour", x.undo(), 60);
    }

    private static void the512thCall() {
        PrintShore x = new PrintShore();
        for (int i = 0; i < 8; i++) {
            x.walker(i % 7, 3 * i);
        }
        for (int i = 8; i < 511; i++) {
            x.go(60);
        }
        due("the 512th call is answered", x.now(0), 503 * 60);
        PrintShore y = new PrintShore();
        for (int i = 0; i < 8; i++) {
            y.walker(RUNNER, i);
        }
        int sets = 0;
        for (int i = 8; i < 512; i++) {
            sets |= y.away(i % 24, 20);
        }
        due("the dearest call, 504 times", sets == 0 ? 0 : 1, 1);
    }

    public static void main(String[] args) {
        reachOfTheTide();
        depthsBeforeTheTide();
        quotedStopsAtItsBound();
        stepsStopAtTheirBound();
        walkersAtMostEight();
        printsOfNoneAndOfAny();
        stridesOfKinds();
        pressesOfKinds();
        looksOfKinds();
        noFartherThanTheEnds();
        quotesOfOthersAlone();
        tideEverySixthHour();
        hourStopsAtItsBound();
        nowOfNothingAndOfAll();
        linesFromEndToEnd();
        aheadIsWhatComes();
        behindTwoHundredHours();
        whenAndGoneNow();
        meetNowAndNever();
        ofSeveralTheLeast();
        censorsOfManyQuoters();
        greatestStrideCellAndKind();
        reachesAndWeights();
        awayNoneOneAndAll();
        guessesBySheets();
        drawnTides();
        oddsInLowestTerms();
        seedsOfAnySize();
        tapeEmptyAndFull();
        textsAtTheirEdges();
        whatTextsTell();
        spotsEmptyAndFull();
        sheetsEmptyAndFull();
        numbersOfSoManyBits();
        copiesAsTheyAllWere();
        loadsToTheFirstThatCant();
        judgedToTheFirstThatIsnt();
        imagesOfAllButTapeAndSheets();
        the512thCall();
        close();
    }
}
