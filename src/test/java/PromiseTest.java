/** Each promise of the document by itself: ordinary inputs, its edges, wrong inputs. */
public final class PromiseTest extends ShoreTest {
    /** A sheet of 8 bits with these numbers. */
    private static void fill(PrintShore x, int s, int... numbers) {
        fill(x, s, 8, numbers);
    }

    private static void promise1New() {
        PrintShore x = new PrintShore();
        for (int what = 0; what <= 7; what++) {
            due("new count(" + what + ")", x.count(what), what == 6 ? 1 : 0);
        }
        for (int c = 0; c < 24; c++) {
            due("new cell whose", x.cell(c, 0), -1);
            due("new cell depth", x.cell(c, 1), 0);
            due("new cell toward", x.cell(c, 2), 0);
            due("new cell walkers", x.cell(c, 3), 0);
        }
        due("new reach", x.reach(8), 8);
        for (int spot = 0; spot < 10; spot++) {
            due("new spot", x.as(spot, 0), MISSING);
        }
        for (int s = 0; s < 4; s++) {
            due("new sheet", x.judge(s), MISSING);
        }
        due("new undo", x.undo(), NONE);
        due("new status", x.status(-1), 15);
    }

    private static void promise2Cell() {
        PrintShore x = shoreOf("walker at 3;thief at 3;walker at 4;print 3 1 7;print 4 0 5 out");
        due("cell whose", x.cell(3, 0), 1);
        due("cell depth", x.cell(3, 1), 7);
        due("cell toward in", x.cell(3, 2), 1);
        due("cell toward out", x.cell(4, 2), 0);
        due("cell walkers", x.cell(3, 3), 3);
        due("cell walkers 4", x.cell(4, 3), 4);
        due("cell 23", x.cell(23, 0), -1);
        for (int bad : new int[] {-1, 24, LEAST, MOST}) {
            due("cell beyond", x.cell(bad, 0), BEYOND);
        }
        for (int bad : new int[] {-1, 4, LEAST, MOST}) {
            due("cell what beyond", x.cell(0, bad), BEYOND);
        }
    }

    private static void promise3Print() {
        PrintShore x = shoreOf("walker;thief out");
        due("print", x.print(5, 0, 9), -1);
        due("print whose", x.cell(5, 0), 0);
        due("print depth", x.cell(5, 1), 9);
        due("print toward its way", x.cell(5, 2), 1);
        due("print over", x.print(5, 1, 0), 0);
        due("print of a thief: its way, not its look", x.cell(5, 2), 0);
        due("print of depth 0 stands", x.now(1), 1);
        due("print quotes nothing by itself", x.now(2), 0);
        x.print(6, 0, 4);
        due("print none", x.print(6, -1, 9), 0);
        due("none whose", x.cell(6, 0), -1);
        due("none depth", x.cell(6, 1), 0);
        due("none toward", x.cell(6, 2), 0);
        due("print cell", x.print(24, 0, 0), BEYOND);
        due("print cell", x.print(-1, 0, 0), BEYOND);
        due("print walker", x.print(0, 2, 0), BEYOND);
        due("print walker", x.print(0, -2, 0), BEYOND);
        due("print depth", x.print(0, 0, 10), BEYOND);
        due("print depth", x.print(0, 0, -1), BEYOND);
        due("print none depth", x.print(5, -1, 10), BEYOND);
        due("refused print changed nothing", x.cell(5, 0), 1);
    }

    private static void promise4Reach() {
        PrintShore x = new PrintShore();
        due("reach", x.reach(24), 8);
        due("reach", x.reach(0), 24);
        due("reach", x.reach(-1), BEYOND);
        due("reach", x.reach(25), BEYOND);
        due("reach kept", x.reach(3), 0);
    }

    private static void promise5Tide() {
        PrintShore x = shoreOf("walker;print 0 0 7;print 1 0 8;print 2 0 9;print 7 0 0;print 8 0 1;print 9 0 9");
        due("tide", x.tide(), 2);
        due("tide took", x.now(3), 1 << 1 | 1 << 2 | 1 << 8 | 1 << 9);
        due("tide wore 8", x.cell(1, 1), 7);
        due("tide wore 9", x.cell(2, 1), 8);
        due("tide left", x.cell(9, 1), 9);
        due("a gone print looks nowhere", x.cell(0, 2), 0);
        due("tide again", x.tide(), 1);
        due("tide again", x.tide(), 1);
        due("tide takes no hour", x.now(0), 0);
        x.reach(24);
        due("tide everywhere", x.tide(), 1);
        x.reach(0);
        due("tide nowhere", x.tide(), 0);
        due("what stands", x.now(3), 1 << 9);
    }

    private static void promise6Walker() {
        PrintShore x = new PrintShore();
        due("walker kind", x.walker(-1, 0), BEYOND);
        due("walker kind", x.walker(7, 0), BEYOND);
        due("walker cell", x.walker(0, -1), BEYOND);
        due("walker cell", x.walker(0, 24), BEYOND);
        for (int i = 0; i < 8; i++) {
            due("walker", x.walker(i % 7, 23 - i), i);
        }
        due("walker full", x.walker(0, 0), FULL);
        due("walker beyond before full", x.walker(7, 0), BEYOND);
        due("walkers", x.count(1), 8);
        int[] first = {6, 17, 1, 1, 4, 0};
        for (int what = 0; what < 6; what++) {
            due("walker trait " + what, x.of(6, what), first[what]);
        }
    }

    private static void promise7Of() {
        PrintShore x = new PrintShore();
        for (int kind = 0; kind < 7; kind++) {
            x.walker(kind, 0);
        }
        strides(x, 1, new int[] {1, 1, 1, 1, 3, 1, 2});
        strides(x, 5, new int[] {5, 5, 1, 3, 5, 5, 10});
        x.go(1);
        strides(x, 1, new int[] {1, 2, 1, 1, 3, 1, 4});
        strides(x, 6, new int[] {6, 7, 1, 4, 6, 6, 14});
        presses(x, 1, 3, new int[] {1, 0, 4, 5, 3, 1, 0});
        presses(x, 4, 3, new int[] {4, 2, 7, 8, 6, 1, 1});
        presses(x, 4, 4, new int[] {4, 2, 7, 8, 8, 1, 1});
        presses(x, 5, 6, new int[] {5, 2, 8, 9, 9, 1, 1});
        presses(x, 9, 6, new int[] {9, 4, 9, 9, 9, 1, 3});
        // The bound of 9 is taken as that of the print: 9 + 3 + 1 - 2, then 9 at most.
        presses(x, 9, 1, new int[] {9, 4, 9, 9, 9, 1, 3});
        presses(x, 6, 1, new int[] {6, 3, 9, 9, 8, 1, 2});
        for (int kind = 0; kind < 7; kind++) {
            x.change(kind, 2, 1);
            due("looks in " + kind, x.of(kind, 8), kind == THIEF ? 0 : 1);
            x.change(kind, 2, 0);
            due("looks out " + kind, x.of(kind, 8), kind == THIEF ? 1 : 0);
        }
        PrintShore y = shoreOf("walker;walker;print 0 1 1;print 23 1 1;print 5 0 1");
        due("of work", y.of(1, 9), 1 | 1 << 23);
        due("of work", y.of(0, 9), 1 << 5);
        due("of walker", y.of(2, 0), BEYOND);
        due("of walker", y.of(-1, 0), BEYOND);
        due("of what", y.of(0, 10), BEYOND);
        due("of what", y.of(0, -1), BEYOND);
    }

    private static void strides(PrintShore x, int stride, int[] wants) {
        for (int kind = 0; kind < 7; kind++) {
            x.change(kind, 3, stride);
            due("strides of kind " + kind + " with " + stride, x.of(kind, 6), wants[kind]);
        }
    }

    private static void presses(PrintShore x, int weight, int stride, int[] wants) {
        for (int kind = 0; kind < 7; kind++) {
            x.change(kind, 3, stride);
            x.change(kind, 4, weight);
            due("presses of kind " + kind + " with " + weight, x.of(kind, 7), wants[kind]);
        }
    }

    private static void promise8Change() {
        PrintShore x = shoreOf("walker at 2;walker");
        int[] first = {0, 2, 1, 1, 4, 0};
        int[] least = {0, 0, 0, 1, 1, 0};
        int[] most = {6, 23, 1, 6, 9, 99999};
        for (int what = 0; what < 6; what++) {
            due("change " + what, x.change(0, what, most[what]), first[what]);
            due("change over " + what, x.change(0, what, most[what] + 1), BEYOND);
            due("change under " + what, x.change(0, what, least[what] - 1), BEYOND);
            due("change back " + what, x.change(0, what, least[what]), most[what]);
            due("changed " + what, x.of(0, what), least[what]);
        }
        due("the other one is as it was", x.of(1, 4), 4);
        due("change what", x.change(0, 6, 1), BEYOND);
        due("change what", x.change(0, -1, 1), BEYOND);
        due("change walker", x.change(2, 0, 1), BEYOND);
        due("change walker", x.change(-1, 0, 1), BEYOND);
    }

    private static void promise9Go() {
        PrintShore x = shoreOf("walker at 20 stride 2;thief at 23 out stride 6");
        due("go", x.go(1), 2);
        due("went in", x.of(0, 1), 22);
        due("went out", x.of(1, 1), 17);
        due("print", x.cell(22, 0), 0);
        due("print depth", x.cell(22, 1), 4);
        due("print toward", x.cell(22, 2), 1);
        due("thief's print depth", x.cell(17, 1), 1);
        due("thief's print toward", x.cell(17, 2), 1);
        due("go to the end", x.go(1), 4);
        due("no farther than 23", x.of(0, 1), 23);
        due("turned", x.of(0, 2), 0);
        due("the print has the way it went", x.cell(23, 2), 1);
        due("go", x.go(2), 8);
        due("no farther than 0", x.of(1, 1), 0);
        due("turned at 0", x.of(1, 2), 1);
        due("thief came to 0 going out", x.cell(0, 2), 1);
        due("steps", x.of(0, 5), 4);
        due("hour", x.now(0), 4);
        due("hour 6 brings the tide", x.go(2), 8);
        due("what the tide left", x.now(3), 1 << 11 | 1 << 12 | 1 << 15 | 1 << 17 | 1 << 19 | 7 << 21);
        due("quoted the thief's on 17", x.now(2), 1);
        due("go 0", x.go(0), BEYOND);
        due("go 61", x.go(61), BEYOND);
        due("go -1", x.go(-1), BEYOND);
        due("go least", x.go(LEAST), BEYOND);
        due("go 60", x.go(60) >= 0 ? 1 : 0, 1);
        due("hour", x.now(0), 66);
        due("steps", x.of(1, 5), 66);
        PrintShore y = shoreOf("walker at 22;walker at 22;walker at 22 stride 2");
        due("exactly to 23", y.go(1), 1);
        due("no turn when it could go so far", y.of(0, 2), 1);
        due("turn when it couldn't", y.of(2, 2), 0);
        due("each quotes the one before", y.now(2), 2);
        due("the last one's", y.cell(23, 0), 2);
        y.change(0, 5, 99999);
        y.go(1);
        due("steps 99999 at most", y.of(0, 5), 99999);
        due("stuck at 23 it prints there and turns", y.of(0, 2), 0);
        due("quoted by 0 and by 1, 2 is off", y.now(2), 4);
        y.print(22, 0, 3);
        due("go", y.go(1), 4);
        due("0 comes upon its own, 1 upon that of 0", y.now(2), 5);
        PrintShore z = shoreOf("child;runner;carter stride 6;horse stride 5;rider stride 5");
        z.go(2);
        due("child 1 then 2", z.of(0, 1), 3);
        due("runner 2 then 4", z.of(1, 1), 6);
        due("carter", z.of(2, 1), 2);
        due("horse", z.of(3, 1), 6);
        due("rider", z.of(4, 1), 10);
    }

    private static void promise10Now() {
        PrintShore x = shoreOf("walker;walker;walker;print 1 2 3;print 2 1 4;print 3 1 5;print 23 2 0");
        due("now prints", x.now(1), 4);
        due("now set", x.now(3), 1 << 1 | 1 << 2 | 1 << 3 | 1 << 23);
        due("now depths", x.now(4), 12);
        due("now greatest, the least of several", x.now(5), 1);
        x.print(0, 2, 1);
        due("now greatest", x.now(5), 2);
        x.change(0, 5, 99999);
        x.change(1, 5, 99999);
        due("now steps", x.now(6), 199998);
        due("now", x.now(7), BEYOND);
        due("now", x.now(-1), BEYOND);
        due("nobody's work is greatest", new PrintShore().now(5), -1);
        due("empty works: the least", shoreOf("walker;walker").now(5), 0);
    }

    private static void promise11Line() {
        PrintShore x = shoreOf("walker;walker;print 0 0 1;print 1 0 1;print 2 1 1;print 3 0 1;print 21 0 1");
        due("line", x.line(0), 2);
        x.print(22, 0, 1);
        x.print(23, 0, 1);
        due("line to the end", x.line(0), 3);
        due("line", x.line(1), 1);
        x.print(2, -1, 0);
        due("no line", x.line(1), 0);
        due("line", x.line(2), BEYOND);
        due("line", x.line(-1), BEYOND);
    }

    private static void promise12Ahead() {
        PrintShore x = shoreOf("carter at 4 weight 5;thief at 9 out");
        due("ahead 0", x.ahead(5, 0, 0), -1);
        due("ahead 1", x.ahead(5, 0, 1), 0);
        due("ahead depth", x.ahead(5, 1, 1), 8);
        due("ahead toward", x.ahead(8, 2, 1), 1);
        due("ahead before the tide", x.ahead(5, 1, 5), 1);
        due("ahead overwritten", x.ahead(5, 0, 5), 1);
        due("ahead behind the tide", x.ahead(5, 0, 6), -1);
        due("ahead worn", x.ahead(6, 1, 6), 0);
        due("ahead kept beyond the reach", x.ahead(8, 1, 6), 8);
        due("nothing changed", x.now(1) + x.now(0), 0);
        due("ahead cell", x.ahead(24, 0, 0), BEYOND);
        due("ahead cell", x.ahead(-1, 0, 0), BEYOND);
        due("ahead what", x.ahead(0, 3, 0), BEYOND);
        due("ahead what", x.ahead(0, -1, 0), BEYOND);
        due("ahead n", x.ahead(0, 0, -1), BEYOND);
        due("ahead n", x.ahead(0, 0, 101), BEYOND);
        int[] far = new int[24];
        for (int c = 0; c < 24; c++) {
            far[c] = x.ahead(c, 0, 100);
        }
        x.go(60);
        x.go(40);
        for (int c = 0; c < 24; c++) {
            due("ahead was right " + c, x.cell(c, 0), far[c]);
        }
    }

    private static void promise13Work() {
        PrintShore x = shoreOf("walker at 10;print 3 0 1");
        due("work 0", x.work(0, 0), 1);
        due("work 5", x.work(0, 5), 6);
        due("work behind the tide", x.work(0, 6), 6);
        due("work 100", x.work(0, 100) > 0 ? 1 : 0, 1);
        due("nothing changed", x.now(0), 0);
        due("work n", x.work(0, 101), BEYOND);
        due("work n", x.work(0, -1), BEYOND);
        due("work walker", x.work(1, 0), BEYOND);
        due("work walker", x.work(-1, 0), BEYOND);
    }

    private static void promise14When() {
        PrintShore x = shoreOf("walker at 10;walker stride 5;print 3 0 1");
        due("when now", x.when(0, 3), 0);
        due("when", x.when(0, 15), 5);
        due("when it came back", x.when(0, 9), 28);
        due("when 1 at 5", x.when(1, 5), 1);
        due("nothing changed", x.now(0), 0);
        due("when cell", x.when(0, 24), BEYOND);
        due("when cell", x.when(0, -1), BEYOND);
        due("when walker", x.when(2, 0), BEYOND);
        due("when walker", x.when(-1, 0), BEYOND);
        // From 0 with 6: 6, 12, 18, 23 (turned), 17, 11, 5, 0, 6, ..: never at 1.
        PrintShore y = shoreOf("walker stride 6");
        due("when never", y.when(0, 1), NONE);
        due("none is counted", y.status(3), 1);
    }

    private static void promise15Gone() {
        PrintShore x = shoreOf("walker at 20;print 0 0 7;print 1 0 8;print 2 0 9;print 8 0 1");
        due("gone now", x.gone(3), 0);
        due("gone by the first tide", x.gone(0), 6);
        due("gone by the second", x.gone(1), 12);
        due("gone by the third", x.gone(2), 18);
        due("never gone", x.gone(8), NONE);
        due("gone cell", x.gone(24), BEYOND);
        due("gone cell", x.gone(-1), BEYOND);
        due("nothing changed", x.now(1), 4);
    }

    private static void promise16Meet() {
        PrintShore x = shoreOf("walker at 3;walker at 3;walker at 7 out;walker at 10 out");
        due("meet now", x.meet(0, 1), 0);
        due("meet", x.meet(0, 2), 2);
        due("meet", x.meet(2, 0), 2);
        due("they pass one another", x.meet(0, 3), NONE);
        due("meet oneself", x.meet(1, 1), BEYOND);
        due("meet", x.meet(0, 4), BEYOND);
        due("meet", x.meet(-1, 0), BEYOND);
        due("nothing changed", x.now(0), 0);
        due("at the end", shoreOf("walker at 3;walker at 4").meet(0, 1), 20);
    }

    private static void promise17StrideFor() {
        PrintShore x = shoreOf("walker at 8;walker at 8");
        due("stride for 0: the least", x.strideFor(0, 0), 1);
        // 1 goes over what 0 writes: with 1 nothing stays, with 2 and 3 two cells, with 4 to 6 three.
        due("stride for 3: the least", x.strideFor(0, 3), 4);
        // 14 20 23 17 11: with 6 alone all five stay.
        due("stride for 5", x.strideFor(0, 5), 6);
        due("stride as it was", x.of(0, 3), 1);
        due("carter: all alike", shoreOf("carter at 8").strideFor(0, 20), 1);
        due("n", x.strideFor(0, 41), BEYOND);
        due("n", x.strideFor(0, -1), BEYOND);
        due("walker", x.strideFor(2, 0), BEYOND);
    }

    private static void promise18Start() {
        // The tide of the 6th hour takes what is below 8: from 7 on all six stand.
        PrintShore x = shoreOf("walker");
        due("start 0", x.start(0, 0), 0);
        due("start 5", x.start(0, 5), 0);
        due("start 6: the least", x.start(0, 6), 7);
        due("at as it was", x.of(0, 1), 0);
        due("n", x.start(0, 41), BEYOND);
        due("n", x.start(0, -1), BEYOND);
        due("walker", x.start(1, 0), BEYOND);
    }

    private static void promise19KindFor() {
        PrintShore x = shoreOf("walker stride 6");
        due("kind for 0", x.kindFor(0, 0), 0);
        // 4 hours: 6 12 18 23 | child 6 13 19 23 | carter 1 2 3 4: all four cells.
        due("kind for 4: the least", x.kindFor(0, 4), WALKER);
        // 5 hours, runner 12, 23, 11, 0, 12: four; walker: 6 12 18 23 17: five.
        due("kind for 5: the least", x.kindFor(0, 5), WALKER);
        PrintShore y = shoreOf("runner stride 6");
        // The tide takes a cell of every other kind, and none of a horse, which presses 8.
        due("kind for 6", y.kindFor(0, 6), HORSE);
        due("kind as it was", y.of(0, 0), RUNNER);
        due("n", x.kindFor(0, 41), BEYOND);
        due("n", x.kindFor(0, -1), BEYOND);
        due("walker", x.kindFor(1, 0), BEYOND);
    }

    private static void promise20ReachFor() {
        PrintShore x = shoreOf("walker at 20;print 3 0 7;print 4 0 8");
        due("reach for, no tide yet", x.reachFor(3, 5), 24);
        due("reach for", x.reachFor(3, 6), 3);
        due("reach for a deep one", x.reachFor(4, 6), 24);
        due("reach for a worn one", x.reachFor(4, 12), 4);
        due("no print", x.reachFor(5, 5), NONE);
        due("reach as it was", x.reach(8), 8);
        due("cell", x.reachFor(24, 0), BEYOND);
        due("cell", x.reachFor(-1, 0), BEYOND);
        due("n", x.reachFor(0, 41), BEYOND);
        due("n", x.reachFor(0, -1), BEYOND);
        due("cell 0 with reach 0", shoreOf("walker;print 0 0 1").reachFor(0, 6), 0);
    }

    private static void promise21WeightFor() {
        PrintShore x = shoreOf("walker at 2;carter at 20");
        due("before the tide", x.weightFor(0, 3, 5), 1);
        due("the tide spares 8", x.weightFor(0, 3, 6), 8);
        due("two tides spare 9", x.weightFor(0, 3, 12), 9);
        due("three none", x.weightFor(0, 3, 18), NONE);
        due("another's", x.weightFor(1, 3, 5), NONE);
        due("weight as it was", x.of(0, 4), 4);
        due("walker", x.weightFor(2, 0, 0), BEYOND);
        due("cell", x.weightFor(0, 24, 0), BEYOND);
        due("n", x.weightFor(0, 0, 41), BEYOND);
        due("n", x.weightFor(0, 0, -1), BEYOND);
    }

    private static void promise22Away() {
        PrintShore x = shoreOf("walker at 18;walker at 22 out;walker at 19;print 20 2 9");
        due("away 0", x.away(20, 0), 0);
        // 2 comes first (its own), 0 and 1 come behind 2 hours.
        due("away 1", x.away(20, 1), 0);
        due("away 2", x.away(20, 2), 1 | 2);
        due("as it was", x.now(0), 0);
        PrintShore y = shoreOf("walker at 18;walker at 22 out;print 20 1 9");
        due("away: 1 prints it last", y.away(20, 2), 0);
        due("none: no print to be, but someone", shoreOf("walker at 9").away(10, 1), 1);
        due("empty stays empty", shoreOf("walker at 9").away(12, 1), 0);
        due("none", shoreOf("walker at 9;print 3 0 1").away(3, 6), NONE);
        // Another who would clear the way: the first set of two, of several the least.
        PrintShore z = shoreOf("walker at 11;walker at 11;walker at 11");
        due("all of them", z.away(12, 1), 7);
        due("cell", x.away(24, 0), BEYOND);
        due("cell", x.away(-1, 0), BEYOND);
        due("n", x.away(0, 21), BEYOND);
        due("n", x.away(0, -1), BEYOND);
        // The print of 0 stands if 2 stays away and 0 goes behind 1, or if both others do: fewest first.
        PrintShore v = shoreOf("walker at 0;walker at 11;walker at 13 out;print 12 2 9");
        due("fewest", v.away(12, 1), 0);
        PrintShore u = shoreOf("walker at 11;walker at 13 out;walker at 5;print 12 0 9");
        due("one of them", u.away(12, 1), 2);
    }

    private static void promise23Censor() {
        PrintShore x = shoreOf("walker at 10;walker at 11;walker at 20");
        // 1 goes ahead of 0, whose prints come upon it each hour; without either there is none.
        due("censor 0: the least", x.censor(0), 0);
        due("censor", x.censor(3), 0);
        PrintShore y = shoreOf("walker at 1;walker at 10;walker at 11");
        due("censor", y.censor(3), 1);
        due("as it was", y.now(2) + y.now(0), 0);
        due("none", new PrintShore().censor(0), NONE);
        due("n before none", new PrintShore().censor(41), BEYOND);
        due("n", x.censor(-1), BEYOND);
    }

    private static void promise24To26Guesses() {
        PrintShore x = shoreOf("walker at 0");
        fill(x, 0, 0, 0, -1, -1, 1);
        // Behind 2 hours: stride 1 at 1 2, 2 at 2 4, 3 at 3 6, 4 at 4 8, 5 at 5 10.
        due("fits", x.fits(0, 0, 2), 2);
        due("strode", x.strode(0, 0, 2), 2);
        // walker and thief 1 2, child 1 3, carter 1 2, horse 1 2, rider 3 6, runner 2 6.
        fill(x, 0, 0, 1, 1);
        due("kinds", x.kinds(0, 0, 2), 1 << WALKER | 1 << CARTER | 1 << HORSE | 1 << THIEF);
        fill(x, 0, 0, 1, 0, 1);
        due("kinds", x.kinds(0, 0, 2), 1 << CHILD);
        fill(x, 0, -1, -1, 1, -1, -1, -1, 1);
        due("kinds", x.kinds(0, 0, 2), 1 << RUNNER);
        fill(x, 0, -1, -1, 0, 1);
        due("kinds", x.kinds(0, 0, 2), 1 << CHILD | 1 << RIDER);
        fill(x, 0, 1);
        due("fits none", x.fits(0, 0, 2), 0);
        due("strode none", x.strode(0, 0, 2), NONE);
        due("kinds none", x.kinds(0, 0, 2), 0);
        fill(x, 0);
        due("an empty sheet: all", x.fits(0, 0, 20), 6);
        due("an empty sheet: all", x.strode(0, 0, 20), 1);
        due("an empty sheet: all", x.kinds(0, 0, 20), 127);
        x.sheet(0, 16, 40);
        for (int i = 24; i < 40; i++) {
            x.write(0, i, 1);
        }
        due("beyond 24 nothing is asked", x.fits(0, 0, 0), 6);
        x.write(0, 23, 1);
        due("the 24th is asked", x.fits(0, 0, 0), 0);
        due("nothing changed", x.of(0, 3) + x.now(0), 1);
        PrintShore y = shoreOf("walker;walker;print 0 1 1");
        fill(y, 0, 0);
        due("another's is none of it", y.fits(0, 0, 0), 6);
        due("its own", y.fits(0, 1, 0), 0);
        guessFindings();
    }

    private static void guessFindings() {
        PrintShore x = shoreOf("walker");
        x.sheet(0, 8, 1);
        int[][] bad = {{-1, 9, 0, BEYOND}, {4, 0, 0, BEYOND}, {1, 9, 99, MISSING},
            {0, 1, 0, BEYOND}, {0, -1, 0, BEYOND}, {0, 0, -1, BEYOND}, {0, 0, 21, BEYOND}};
        for (int[] b : bad) {
            due("fits wrong", x.fits(b[0], b[1], b[2]), b[3]);
            due("strode wrong", x.strode(b[0], b[1], b[2]), b[3]);
            due("kinds wrong", x.kinds(b[0], b[1], b[2]), b[3]);
        }
        due("beyond counted", x.status(0), 18);
        due("missing counted", x.status(5), 3);
    }

    private static void promise27Tides() {
        PrintShore x = shoreOf("walker;walker;walker;walker;walker;walker;walker;walker");
        int z = 1;
        int[] stride = {1, 1, 1, 1, 1, 1, 1, 1};
        int reach = 0;
        for (int i = 0; i < 40; i++) {
            z = z * 1103515245 + 12345;
            reach = (z >>> 8) % 25;
            z = z * 1103515245 + 12345;
            int w = (z >>> 8) % 8;
            stride[w] = Math.min(6, stride[w] + 1);
        }
        due("tides", x.tides(20), x.now(1));
        due("tides", x.tides(20), x.now(1));
        due("z", x.count(6), z);
        due("hours", x.now(0), 40);
        due("reach", x.reach(0), reach);
        for (int w = 0; w < 8; w++) {
            due("stride of " + w, x.of(w, 3), stride[w]);
        }
        PrintShore y = shoreOf("walker");
        y.seed(12345);
        due("few walkers", y.tides(20) >= 0 ? 1 : 0, 1);
        due("tides 0", x.tides(0), BEYOND);
        due("tides 21", x.tides(21), BEYOND);
        due("refused tides draw nothing", x.count(6), z);
    }

    private static void promise28Odds() {
        PrintShore x = new PrintShore();
        due("odds of none", x.odds(0, 0, 0), 1);
        due("odds of none", x.odds(0, 0, 1), 1);
        due("odds", x.odds(0, 1, 0), 1);
        due("odds", x.odds(0, 1, 1), 25);
        due("odds", x.odds(9, 2, 0), 4);
        due("odds", x.odds(9, 2, 1), 25);
        due("odds", x.odds(19, 12, 0), 16777216);
        due("odds", x.odds(19, 12, 1), 244140625);
        due("odds", x.odds(23, 12, 0), 36520347436056576L);
        due("odds", x.odds(23, 12, 1), 59604644775390625L);
        due("cell", x.odds(24, 0, 0), BEYOND);
        due("cell", x.odds(-1, 0, 0), BEYOND);
        due("n", x.odds(0, 13, 0), BEYOND);
        due("n", x.odds(0, -1, 0), BEYOND);
        due("what", x.odds(0, 0, 2), BEYOND);
        due("what", x.odds(0, 0, -1), BEYOND);
        due("counted", x.status(0), 6);
    }

    private static void promise29Seed() {
        PrintShore x = new PrintShore();
        due("seed", x.seed(BEYOND), 1);
        due("z like a finding", x.count(6), BEYOND);
        due("seed like a finding", x.seed(MOST), BEYOND);
        due("is none", x.status(-1), 0);
        due("seed", x.seed(LEAST), MOST);
    }

    private static void promise30To31Tape() {
        PrintShore x = new PrintShore();
        due("feed n", x.feed(0, 0), BEYOND);
        due("feed n", x.feed(0, 5), BEYOND);
        due("feed n", x.feed(0, -1), BEYOND);
        // 're' and 'ach ', then '9' as the lowest of four bytes.
        due("feed", x.feed(0x12347265, 2), 2);
        due("feed", x.feed(0x61636820, 4), 6);
        due("feed", x.feed(0x61636839, 1), 7);
        due("fed", x.count(5), 7);
        due("text", x.text(), 1);
        due("read", x.reach(0), 9);
        for (int i = 1; i <= 29; i++) {
            due("feed", x.feed(0x20202020, 4), 4 * i);
        }
        due("feed", x.feed(0x20, 3), 119);
        due("feed full", x.feed(0x20, 2), FULL);
        due("feed", x.feed(0x20, 1), 120);
        due("feed full", x.feed(0x20, 1), FULL);
        due("beyond before full", x.feed(0x20, 5), BEYOND);
        due("wipe", x.wipe(), 120);
        due("wipe", x.wipe(), 0);
        due("bytes", x.count(5), 0);
    }

    private static void promise32Text() {
        PrintShore x = new PrintShore();
        due("items", read(x, "  walker at 5 out stride 3 weight 9 ;child;carter at 1 weight 2;horse out;"
            + "rider stride 6;thief;runner"), 7);
        int[][] wants = {{0, 5, 0, 3, 9, 0}, {1, 0, 1, 1, 4, 0}, {2, 1, 1, 1, 2, 0}, {3, 0, 0, 1, 4, 0},
            {4, 0, 1, 6, 4, 0}, {5, 0, 1, 1, 4, 0}, {6, 0, 1, 1, 4, 0}};
        for (int w = 0; w < 7; w++) {
            for (int what = 0; what < 6; what++) {
                due("told walker " + w + " " + what, x.of(w, what), wants[w][what]);
            }
        }
        due("tape is empty", x.count(5), 0);
        due("no blanks", read(x, "reach24;print23 6 9out;print 0 000 0;reach 00007"), 4);
        due("reach: the last one", x.reach(8), 7);
        due("print", x.cell(23, 0), 6);
        due("print out", x.cell(23, 2), 0);
        due("print in", x.cell(0, 2), 1);
        due("an 8th", read(x, "child;walker"), -7);
        due("nothing of it", x.count(1), 7);
        due("an 8th", read(x, "child;print 1 7 1"), 2);
        due("a 9th", read(x, " child"), -2);
        due("whose", x.cell(1, 0), 7);
        due("text is no finding", x.status(-1), 0);
    }

    private static void promise32Faults() {
        String[] texts = {"", "   ", "walker;", "walker; ", "walker at", "walker at out", "walker at 24", "walker at 1000",
            "walker at 4294967296", "walker stride 0", "walker stride 7", "walker weight 0", "walker weight 10",
            "walker weight 1 stride 1", "walker out at 1", "walker out out", "walker at 1 at 2", "reach", "reach 25",
            "reach 2 out", "reach reach", "print 0 0 0", "walker;print 24 0 0", "walker;print 0 1 0", "walker;print 0 0 10",
            "walker;print 0 0", "walker;print 0 0 1 out out", ";", "walker;;walker", "Walker", "walker,child", "walker at -1",
            "wal ker", "walkerat 1", "walker\tat 1", "7", "walker 7", "out", "walker \u00ff", "reach 1 2", "reach 1 walker",
            "walker;print 0 0 1;print 1 1 1", "walker;reach 99999999999999999999", "walkerz", "awalker", "`walker", "walker{",
            "walker at 1/", "walker at 1:", "walker at 1 child"};
        int[] faults = {0, 3, 7, 8, 9, 10, 10, 10, 10, 14, 14, 14, 14, 16, 11, 11, 12, 5, 6, 8, 6, 8, 13, 15, 17, 16, 23, 0, 7,
            0, 6, 10, 0, 0, 6, 0, 7, 0, 7, 8, 8, 27, 13, 0, 0, 0, 6, 11, 11, 12};
        for (int i = 0; i < texts.length; i++) {
            PrintShore x = new PrintShore();
            due("fault of '" + texts[i] + "'", read(x, texts[i]), -1 - faults[i]);
            due("no walker of it", x.count(1), 0);
            due("no print of it", x.count(2), 0);
            due("no reach of it", x.reach(8), 8);
            due("tape is empty", x.count(5), 0);
            due("no finding", x.status(-1), 0);
        }
    }

    private static void promise33To34Spots() {
        PrintShore x = new PrintShore();
        for (int kind = 0; kind < 7; kind++) {
            x.walker(kind, 0);
        }
        due("hold", x.hold(10, 0), BEYOND);
        due("hold", x.hold(-1, 0), BEYOND);
        due("hold", x.hold(0, 7), BEYOND);
        due("hold", x.hold(0, -2), BEYOND);
        for (int kind = 0; kind < 7; kind++) {
            due("hold", x.hold(kind, kind), 1);
        }
        due("held", x.count(7), 7);
        // Rows: what is held; columns: as what.
        int[][] under = {{1, 0, 0, 0, 0, 0, 0}, {1, 1, 0, 0, 0, 0, 0}, {1, 0, 1, 0, 0, 0, 0}, {1, 0, 1, 1, 0, 0, 0},
            {1, 0, 1, 1, 1, 0, 0}, {1, 0, 0, 0, 0, 1, 0}, {1, 1, 0, 0, 0, 0, 1}};
        for (int w = 0; w < 7; w++) {
            for (int kind = 0; kind < 7; kind++) {
                due(w + " as " + kind, x.as(w, kind), under[w][kind] == 1 ? w : KIND);
            }
        }
        x.change(0, 0, RIDER);
        due("as it is now", x.as(0, HORSE), 0);
        due("hold nothing", x.hold(0, -1), 1);
        due("missing", x.as(0, 0), MISSING);
        due("missing", x.as(9, 0), MISSING);
        due("as", x.as(10, 0), BEYOND);
        due("as", x.as(-1, 0), BEYOND);
        due("beyond before missing", x.as(9, 7), BEYOND);
        due("as", x.as(1, -1), BEYOND);
        due("held", x.count(7), 6);
    }

    private static void promise35To36Sheets() {
        PrintShore x = new PrintShore();
        due("sheet", x.sheet(4, 8, -1), BEYOND);
        due("sheet", x.sheet(-1, 8, 1), BEYOND);
        due("bits before size", x.sheet(0, 7, -1), BEYOND);
        due("size", x.sheet(0, 8, -1), SIZE);
        due("size with 0", x.sheet(0, 0, -1), SIZE);
        due("sheet 41", x.sheet(0, 32, 41), BEYOND);
        due("sheet 41 with 0", x.sheet(0, 0, 41), BEYOND);
        due("still missing", x.write(0, 0, 0), MISSING);
        due("sheet 0", x.sheet(0, 8, 0), 0);
        due("no number", x.write(0, 0, 0), BEYOND);
        due("sheet 40", x.sheet(3, 32, 40), 40);
        due("write", x.write(3, 39, 1), 1);
        due("write", x.write(3, 40, 1), BEYOND);
        due("write", x.write(3, -1, 1), BEYOND);
        due("write", x.write(4, 0, 1), BEYOND);
        due("write", x.write(-1, 0, 1), BEYOND);
        due("sheet away", x.sheet(3, 0, 40), 0);
        due("missing", x.write(3, 99, 0), MISSING);
        widths(x);
    }

    private static void widths(PrintShore x) {
        x.walker(0, 0);
        int[] bits = {8, 16, 32};
        for (int b : bits) {
            int top = b == 32 ? 0 : 1 << b;
            x.sheet(0, b, 2);
            x.write(0, 0, top - 1);
            due("told with sign " + b, x.judge(0), 2);
            x.write(0, 1, -1);
            due("told with sign " + b, x.judge(0), 0);
            x.write(0, 0, top + 3);
            due("lowest bits " + b, x.load(0), 1);
            due("lowest bits " + b, x.of(0, 3), 3);
        }
        x.sheet(0, 8, 1);
        x.write(0, 0, 128);
        due("128 of 8 bits is no 0", x.judge(0), 1);
        x.sheet(0, 8, 1);
        x.print(0, 0, 1);
        due("a new sheet is all 0", x.judge(0), 0);
    }

    private static void promise37Copy() {
        PrintShore x = shoreOf("walker;walker;walker;walker;walker;walker");
        due("sheet before missing", x.copy(0, 0, 4, 0, 0), BEYOND);
        due("sheet before missing", x.copy(-1, 0, 0, 0, 0), BEYOND);
        due("missing", x.copy(0, 0, 1, 0, 0), MISSING);
        fill(x, 0, 1, 2, 3, 4, 5, 6);
        due("missing", x.copy(0, 0, 1, 0, 0), MISSING);
        due("missing", x.copy(1, 0, 0, 0, 0), MISSING);
        x.sheet(1, 16, 3);
        due("kind before beyond", x.copy(0, -1, 1, 0, 0), KIND);
        x.sheet(1, 8, 3);
        int[][] bad = {{-1, 0, 1}, {0, -1, 1}, {0, 0, -1}, {0, 0, 4}, {0, 1, 3}, {4, 0, 3}, {MOST, 0, MOST}, {0, MOST, 1},
            {0, 0, LEAST}, {7, 0, 0}, {MOST, MOST, MOST}};
        for (int[] b : bad) {
            due("copy beyond", x.copy(0, b[0], 1, b[1], b[2]), BEYOND);
        }
        due("copy of none at the end", x.copy(0, 6, 1, 3, 0), 0);
        due("copy", x.copy(0, 3, 1, 0, 3), 3);
        due("load", x.load(1), 3);
        due("copied", x.of(0, 3) * 100 + x.of(1, 3) * 10 + x.of(2, 3), 456);
        due("onto itself", x.copy(0, 0, 0, 1, 5), 5);
        x.load(0);
        due("as they all were", x.of(0, 3) * 10000 + x.of(1, 3) * 1000 + x.of(2, 3) * 100 + x.of(5, 3), 11205);
        due("onto itself back", x.copy(0, 1, 0, 0, 5), 5);
        x.load(0);
        due("as they all were", x.of(0, 3) * 1000 + x.of(1, 3) * 100 + x.of(4, 3) * 10 + x.of(5, 3), 1255);
    }

    private static void promise38Load() {
        PrintShore x = shoreOf("walker;walker;walker");
        due("load", x.load(4), BEYOND);
        due("load", x.load(-1), BEYOND);
        due("load", x.load(0), MISSING);
        fill(x, 0, 6, 1, 0, 5);
        due("load ends at 0", x.load(0), 2);
        due("loaded", x.of(0, 3), 6);
        fill(x, 0, 2, 7, 3);
        due("load ends at 7", x.load(0), 1);
        due("the others are as they were", x.of(1, 3) + x.of(2, 3), 2);
        fill(x, 0, 3, 4, 5, 6);
        due("no 4th walker", x.load(0), 3);
        due("loaded", x.of(2, 3), 5);
        fill(x, 0);
        due("an empty sheet", x.load(0), 0);
        PrintShore y = shoreOf("walker;walker;walker;walker;walker;walker;walker;walker");
        fill(y, 0, 2, 2, 2, 2, 2, 2, 2, 2, 2);
        due("no 9th walker", y.load(0), 8);
    }

    private static void promise39Judge() {
        PrintShore x = shoreOf("walker;walker;print 1 1 1;print 3 0 1");
        due("judge", x.judge(4), BEYOND);
        due("judge", x.judge(-1), BEYOND);
        due("judge", x.judge(0), MISSING);
        fill(x, 0, -1, 1, -1, 0);
        due("judge so", x.judge(0), 0);
        fill(x, 0, -1, 1, 0, 0);
        due("judge the first that isn't", x.judge(0), 3);
        fill(x, 0, 0);
        due("judge place 0", x.judge(0), 1);
        fill(x, 0);
        due("judge nothing", x.judge(0), 0);
        int[] row = new int[25];
        java.util.Arrays.fill(row, -1);
        row[1] = 1;
        row[3] = 0;
        fill(x, 0, row);
        due("there is no cell 24", x.judge(0), 25);
        fill(x, 0, java.util.Arrays.copyOf(row, 24));
        due("all 24", x.judge(0), 0);
    }

    private static void promise40To42Images() {
        PrintShore x = shoreOf("walker at 3;thief at 4;print 9 1 9;reach 5");
        x.hold(2, 1);
        x.seed(77);
        x.go(7);
        due("undo", x.undo(), NONE);
        due("tear", x.tear(), 0);
        due("image", x.image(), 1);
        int[] before = picture(x);
        x.go(9);
        x.tides(3);
        x.hold(2, -1);
        x.hold(5, 0);
        x.walker(RIDER, 9);
        x.change(0, 0, CHILD);
        x.change(0, 4, 9);
        x.reach(20);
        x.sheet(1, 8, 3);
        x.feed(32, 1);
        due("undo", x.undo(), 7);
        same(before, picture(x));
        due("sheets stay", x.load(1), 0);
        due("the tape stays", x.count(5), 1);
        due("findings stay", x.status(3), 1);
        x.go(1);
        due("what is kept stays", x.undo(), 7);
        same(before, picture(x));
        x.go(2);
        due("image", x.image(), 1);
        x.go(2);
        due("the latest", x.undo(), 9);
        due("tear", x.tear(), 1);
        due("tear", x.tear(), 0);
        due("undo", x.undo(), NONE);
        due("nothing undone", x.now(0), 9);
    }

    private static int[] picture(PrintShore x) {
        int[] p = new int[24 * 4 + 20 + 20];
        int n = 0;
        for (int c = 0; c < 24; c++) {
            for (int what = 0; what < 4; what++) {
                p[n++] = x.cell(c, what);
            }
        }
        for (int w = 0; w < 2; w++) {
            for (int what = 0; what < 10; what++) {
                p[n++] = x.of(w, what);
            }
        }
        for (int what = 0; what <= 6; what++) {
            p[n++] = x.now(what);
        }
        for (int what = 0; what <= 7; what++) {
            p[n++] = what == 5 ? 0 : x.count(what);
        }
        int reach = x.reach(0);
        x.reach(reach);
        p[n++] = reach;
        p[n++] = x.as(2, 0);
        return p;
    }

    private static void same(int[] a, int[] b) {
        for (int i = 0; i < a.length; i++) {
            due("picture " + i, b[i], a[i]);
        }
    }

    private static void promise43Count() {
        PrintShore x = shoreOf("walker at 9;walker at 12 out;print 20 0 3");
        x.go(1);
        x.feed(65, 3);
        x.hold(9, 0);
        int[] wants = {1, 2, 3, 0, 2, 3, 1, 1};
        for (int what = 0; what <= 7; what++) {
            due("count " + what, x.count(what), wants[what]);
        }
        x.go(1);
        due("quoted both", x.count(3), 2);
        due("count", x.count(8), BEYOND);
        due("count", x.count(-1), BEYOND);
    }

    private static void promise44Status() {
        PrintShore x = new PrintShore();
        due("status", x.status(-1), 0);
        due("status", x.status(7), BEYOND);
        due("counted from then on", x.status(0), 1);
        due("status", x.status(-2), BEYOND);
        due("status", x.status(-1), 2);
        for (int i = 0; i < 9; i++) {
            x.walker(0, 0);
        }
        x.hold(0, 0);
        x.as(0, 1);
        x.undo();
        x.undo();
        x.as(1, 1);
        x.sheet(0, 8, -1);
        int[] wants = {2, 1, 1, 2, 0, 1, 1};
        for (int which = 0; which < 7; which++) {
            due("status " + which, x.status(which), wants[which]);
        }
        due("status", x.status(-1), 8);
        x.image();
        x.undo();
        due("undo takes none back", x.status(-1), 8);
    }

    public static void main(String[] args) {
        promise1New();
        promise2Cell();
        promise3Print();
        promise4Reach();
        promise5Tide();
        promise6Walker();
        promise7Of();
        promise8Change();
        promise9Go();
        promise10Now();
        promise11Line();
        promise12Ahead();
        promise13Work();
        promise14When();
        promise15Gone();
        promise16Meet();
        promise17StrideFor();
        promise18Start();
        promise19KindFor();
        promise20ReachFor();
        promise21WeightFor();
        promise22Away();
        promise23Censor();
        promise24To26Guesses();
        promise27Tides();
        promise28Odds();
        promise29Seed();
        promise30To31Tape();
        promise32Text();
        promise32Faults();
        promise33To34Spots();
        promise35To36Sheets();
        promise37Copy();
        promise38Load();
        promise39Judge();
        promise40To42Images();
        promise43Count();
        promise44Status();
        close();
    }
}
