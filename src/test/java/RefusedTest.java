import java.lang.reflect.InvocationTargetException;
import java.lang.reflect.Method;
import java.util.ArrayList;
import java.util.Arrays;
import java.util.HashMap;
import java.util.List;
import java.util.Map;

/**
 * Every argument of every act at the last value that is taken and at the first that is refused on either side,
 * and every finding in the order of the document's words. Behind each refused call the whole object is looked at:
 * only status() may have changed, by the one finding.
 */
public final class RefusedTest {
    private static final String[] FINDINGS = {"BEYOND", "FULL", "KIND", "NONE", "STATE", "MISSING", "SIZE"};
    private static final int BEYOND = -1000001;
    private static final int MOST_CALLS = 512;

    private static final Map<String, Method> FACE = new HashMap<>();
    private static int wrong = 0;
    private static int checks = 0;

    static {
        for (Method m : PrintShore.class.getDeclaredMethods()) {
            FACE.put(m.getName(), m);
        }
    }

    /** An object and how many calls it had, for what comes behind the 512th is free. */
    private static final class Shore {
        private final PrintShore shore = new PrintShore();
        private int calls;

        long ask(String name, int... a) {
            calls++;
            if (calls > MOST_CALLS) {
                throw new IllegalStateException("call " + calls + " of a test");
            }
            Object[] boxed = Arrays.stream(a).boxed().toArray();
            try {
                return ((Number) FACE.get(name).invoke(shore, boxed)).longValue();
            } catch (IllegalAccessException | InvocationTargetException e) {
                throw new IllegalStateException(name + Arrays.toString(a) + " threw", e);
            }
        }

        /** A row of calls: "walker 0 5; go 3". */
        void run(String calls) {
            for (String call : calls.split(";")) {
                if (!call.isBlank()) {
                    ask(call.trim());
                }
            }
        }

        long ask(String call) {
            String[] parts = call.trim().split(" +");
            int[] a = new int[parts.length - 1];
            for (int i = 0; i < a.length; i++) {
                a[i] = Integer.parseInt(parts[i + 1]);
            }
            return ask(parts[0], a);
        }

        void feed(String text) {
            for (int i = 0; i < text.length(); i++) {
                ask("feed", text.charAt(i), 1);
            }
        }
    }

    private static void due(String what, Object got, Object want) {
        checks++;
        if (!got.equals(want)) {
            wrong++;
            System.out.println(what + ": " + got + ", due is " + want);
        }
    }

    // ---- the states in which calls are refused

    private static final String BUSY = "walker 4 3; walker 1 20; walker 5 9; change 0 3 2; change 1 2 0; change 2 4 9;"
        + "print 5 1 9; print 6 0 0; reach 11; seed -77; go 7; hold 0 0; hold 9 2; hold 4 1; image;"
        + "go 2; change 0 3 5; change 1 5 4321; reach 17; hold 9 -1; hold 3 1; seed 4242; status 9; "
        + "sheet 0 8 6; write 0 0 -1; write 0 1 2; write 0 5 1; sheet 1 8 3; write 1 1 6; sheet 2 16 4; write 2 3 5;"
        + "sheet 3 32 1; write 3 0 7;";
    private static final String EIGHT = "walker 0 0; walker 1 3; walker 2 6; walker 3 9; walker 4 12; walker 5 15; walker 6 18;"
        + "walker 0 21; ";

    private static Shore state(String name) {
        Shore x = new Shore();
        switch (name) {
            case "new":
                break;
            case "busy":
                x.run(BUSY);
                x.feed("reach 3;thief at 7");
                break;
            case "full":
                x.run(EIGHT + "hold 0 0; hold 5 7; go 5; image; go 8; reach 24; sheet 0 8 2; write 0 1 1");
                x.feed("reach 2;print 0 7 5 out");
                for (int size = 23; size < 119; size += 4) {
                    x.ask("feed", 0x20202020, 4);
                }
                x.ask("feed", 0x20, 1);
                break;
            case "117":
                x.run("walker 0 0");
                x.feed("reach 2");
                for (int size = 7; size < 117; size++) {
                    x.ask("feed", 0x20, 1);
                }
                break;
            case "bare":
                x.run("walker 0 2; walker 3 8; walker 2 20; print 0 0 1; go 1");
                break;
            case "never":
                // A stride of 6 goes 0 6 12 18 23 17 11 5 0 6 ..; 3 and 10 pass one another; 8 is never taken.
                x.run("walker 0 0; change 0 3 6; walker 0 3; change 1 2 0; walker 0 10; print 8 1 1; print 1 1 1; sheet 0 8 1;"
                    + "write 0 0 1; sheet 1 8 2; write 1 0 7; hold 0 0");
                break;
            default:
                throw new IllegalArgumentException(name);
        }
        return x;
    }

    private static Shore behind(String state, String call) {
        Shore x = state(state);
        if (!call.isEmpty()) {
            x.run(call);
        }
        return x;
    }

    // ---- all that an object tells, read from as many twins of it as that takes

    private static final Map<String, List<String>> PICTURES = new HashMap<>();

    private static List<String> pictureOf(String state) {
        return PICTURES.computeIfAbsent(state, s -> picture(s, ""));
    }

    private static List<String> picture(String state, String call) {
        List<String> p = new ArrayList<>();
        addShore(p, "now", behind(state, call));
        Shore kept = behind(state, call);
        p.add("undo " + kept.ask("undo"));
        addShore(p, "kept", kept);
        Shore again = behind(state, call);
        p.add("tear " + again.ask("tear"));
        Shore told = behind(state, call);
        p.add("text " + told.ask("text"));
        addShore(p, "told", told);
        for (int s = 0; s < 4; s++) {
            addSheet(p, s, behind(state, call));
        }
        return p;
    }

    private static void addShore(List<String> p, String view, Shore x) {
        for (int what = 0; what <= 7; what++) {
            p.add(view + " count " + what + ": " + x.ask("count", what));
        }
        for (int what = 0; what <= 6; what++) {
            p.add(view + " now " + what + ": " + x.ask("now", what));
        }
        for (int cell = 0; cell < 24; cell++) {
            for (int what = 0; what <= 3; what++) {
                p.add(view + " cell " + cell + " " + what + ": " + x.ask("cell", cell, what));
            }
        }
        for (int walker = 0; walker < x.ask("count", 1); walker++) {
            for (int what = 0; what <= 9; what++) {
                p.add(view + " of " + walker + " " + what + ": " + x.ask("of", walker, what));
            }
        }
        for (int spot = 0; spot < 10; spot++) {
            p.add(view + " as " + spot + ": " + x.ask("as", spot, 0));
        }
        p.add(view + " reach: " + x.ask("reach", 0));
    }

    /** The numbers of these tests' sheets are -1 to 7: judge() tells them beside prints of eight walkers. */
    private static void addSheet(List<String> p, int s, Shore x) {
        while (x.ask("count", 1) < 8) {
            x.ask("walker", 0, 0);
        }
        int size = 0;
        if (x.ask("judge", s) == BEYOND - 5) {
            p.add("sheet " + s + " missing");
            return;
        }
        boolean more = true;
        while (more) {
            more = false;
            for (int v = -1; v <= 7 && !more; v++) {
                x.ask("print", size, v, 0);
                long judged = x.ask("judge", s);
                // An answer for this place or one before it: the number isn't v.
                if (judged == 0 || judged > size + 1) {
                    more = x.ask("copy", s, size, s, size, 1) == 1;
                    if (more) {
                        p.add("sheet " + s + " number " + size + ": " + v);
                    }
                    break;
                }
            }
            size += more ? 1 : 0;
        }
        p.add("sheet " + s + " size: " + size);
        p.add("sheet " + s + " next: " + x.ask("write", s, size, 0));
        int other = (s + 1) % 4;
        for (int bits = 8; bits <= 32; bits *= 2) {
            x.ask("sheet", other, bits, 0);
            p.add("sheet " + s + " is of " + bits + ": " + x.ask("copy", s, 0, other, 0, 0));
        }
    }

    private static long[] counted(Shore x) {
        long[] status = new long[8];
        for (int which = -1; which <= 6; which++) {
            status[which + 1] = x.ask("status", which);
        }
        return status;
    }

    // ---- what is looked at

    private static void refused(String state, String call, String finding) {
        int which = Arrays.asList(FINDINGS).indexOf(finding);
        String told = state + ": " + call;
        Shore x = state(state);
        due(told, x.ask(call), (long) (BEYOND - which));
        long[] status = counted(state(state));
        status[0]++;
        status[which + 1]++;
        due(told + ": status", Arrays.toString(counted(x)), Arrays.toString(status));
        unchanged(told, picture(state, call), pictureOf(state));
    }

    private static void unchanged(String told, List<String> after, List<String> before) {
        due(told + ": how much there is", after.size(), before.size());
        for (int i = 0; i < Math.min(after.size(), before.size()); i++) {
            due(told + ": nothing else changes", after.get(i), before.get(i));
        }
    }

    /** An answer that isn't the finding of a wrong argument: NONE, say, is one of a call that is taken. */
    private static void taken(String state, String call) {
        long answer = state(state).ask(call);
        due(state + ": " + call + " is taken", answer == BEYOND || answer == BEYOND - 6 || answer == BEYOND - 1, false);
    }

    /** A question changes nothing at all. */
    private static void asked(String state, String call) {
        Shore x = state(state);
        long answer = x.ask(call);
        due(state + ": " + call + " is answered", answer > BEYOND, true);
        due(state + ": " + call + ": status", Arrays.toString(counted(x)), Arrays.toString(counted(state(state))));
        unchanged(state + ": " + call, picture(state, call), pictureOf(state));
    }

    /** The name of an act, then its arguments: "least..most", or "=v" for one that stays. The first v is fine in each. */
    private static final String[] RANGES = {
        "cell 0..23 0..3", "print 0..23 -1..2 0..9", "reach 0..24", "walker 0..6 0..23", "of 0..2 0..9", "change 0..2 0..5 =1",
        "change =0 =0 0..6", "change =0 =1 0..23", "change =0 =2 0..1", "change =0 =3 1..6", "change =0 =4 1..9",
        "change =0 =5 0..99999", "go 1..60", "now 0..6", "line 0..2", "ahead 0..23 0..2 0..100", "work 0..2 0..100",
        "when 0..2 0..23", "gone 0..23", "meet 0..2 =1", "meet =1 0..2", "strideFor 0..2 0..40", "start 0..2 0..40",
        "kindFor 0..2 0..40", "reachFor 0..23 0..40", "weightFor 0..2 0..23 0..40", "away 0..23 0..20", "censor 0..40",
        "fits 0..3 0..2 0..20", "strode 0..3 0..2 0..20", "kinds 0..3 0..2 0..20", "tides 1..20", "odds 0..23 0..12 0..1",
        "feed =32 1..4", "hold 0..9 -1..2", "as 0..9 0..6", "sheet 0..3 =8 =1", "write 0..3 =0 =1", "write =0 0..5 =1",
        "write =1 0..2 =1", "write =2 0..3 =1", "write =3 0..0 =1", "copy 0..3 =0 =0 =0 =0", "copy =0 =0 0..3 =0 =0",
        "copy =0 0..6 =1 =0 =0", "copy =0 =0 =1 0..3 =0", "copy =0 =0 =1 =0 0..3", "copy =1 =0 =0 =0 0..3",
        "copy =0 0..3 =1 =0 =3", "copy =0 =0 =1 0..0 =3", "copy =0 0..4 =0 =0 =2", "load 0..3", "judge 0..3", "count 0..7",
        "status -1..6"};

    private static void lookAtRanges() {
        for (String range : RANGES) {
            String[] parts = range.split(" ");
            int[] base = new int[parts.length - 1];
            for (int i = 0; i < base.length; i++) {
                base[i] = Integer.parseInt(parts[i + 1].replaceAll("^=|\\.\\..*", ""));
            }
            for (int i = 0; i < base.length; i++) {
                if (parts[i + 1].contains("..")) {
                    String[] ends = parts[i + 1].split("\\.\\.");
                    lookAtEnds(parts[0], base, i, Integer.parseInt(ends[0]), Integer.parseInt(ends[1]));
                }
            }
        }
    }

    private static void lookAtEnds(String name, int[] base, int i, int least, int most) {
        taken("busy", callOf(name, base, i, least));
        taken("busy", callOf(name, base, i, most));
        int[] bad = {least - 1, most + 1, Integer.MIN_VALUE, Integer.MAX_VALUE};
        for (int v : bad) {
            refused("busy", callOf(name, base, i, v), "BEYOND");
        }
    }

    private static String callOf(String name, int[] base, int i, int v) {
        int[] a = base.clone();
        a[i] = v;
        StringBuilder call = new StringBuilder(name);
        for (int one : a) {
            call.append(' ').append(one);
        }
        return call.toString();
    }

    /** State, call, finding: those that are not of one range alone, and those of several findings. */
    private static final String[] ROWS = {
        // without a walker there is none to tell of, but nothing (-1) can be printed and held
        "new|print 0 0 0|BEYOND", "new|print 24 -1 0|BEYOND", "new|print 0 -1 10|BEYOND", "new|print 0 -1 -1|BEYOND",
        "new|print 0 -2 0|BEYOND", "new|of 0 0|BEYOND", "new|change 0 3 1|BEYOND", "new|line 0|BEYOND", "new|work 0 0|BEYOND",
        "new|when 0 0|BEYOND", "new|meet 0 1|BEYOND", "new|meet 0 0|BEYOND", "new|strideFor 0 0|BEYOND", "new|start 0 0|BEYOND",
        "new|kindFor 0 0|BEYOND", "new|weightFor 0 0 0|BEYOND", "new|hold 0 0|BEYOND", "new|hold 10 -1|BEYOND",
        // FULL: of walkers, of the tape; BEYOND comes first
        "full|walker 0 0|FULL", "full|walker 6 23|FULL", "full|walker 7 0|BEYOND", "full|walker -1 0|BEYOND",
        "full|walker 0 24|BEYOND", "full|walker 0 -1|BEYOND", "full|walker 7 24|BEYOND",
        "full|feed 0 1|FULL", "full|feed 0 2|FULL", "full|feed 0 3|FULL", "full|feed 0 4|FULL", "full|feed 0 5|BEYOND",
        "full|feed 0 0|BEYOND", "full|feed 0 -1|BEYOND", "117|feed 0 4|FULL", "117|feed 0 5|BEYOND",
        "full|print 0 8 0|BEYOND", "full|of 8 0|BEYOND", "full|hold 0 8|BEYOND", "full|line 8|BEYOND",
        // meet: also one and the same
        "busy|meet 0 0|BEYOND", "busy|meet 2 2|BEYOND", "busy|meet 3 3|BEYOND", "busy|meet -1 -1|BEYOND",
        // STATE needs more calls than an object has; go and tides are told BEYOND before it
        "busy|go 0|BEYOND", "busy|tides 0|BEYOND",
        // NONE of what will be, and how to write; BEYOND comes first
        "never|when 0 1|NONE", "never|when 3 1|BEYOND", "never|when 0 24|BEYOND", "never|gone 8|NONE", "never|gone 24|BEYOND",
        "never|meet 1 2|NONE", "never|meet 2 1|NONE", "never|meet 1 3|BEYOND", "never|reachFor 2 0|NONE",
        "never|reachFor 2 41|BEYOND", "never|reachFor -1 0|BEYOND", "new|reachFor 0 40|NONE", "never|weightFor 0 1 0|NONE",
        "never|weightFor 0 1 40|NONE", "never|weightFor 0 1 41|BEYOND", "never|weightFor 3 1 0|BEYOND", "never|away 1 6|NONE",
        "never|away 1 21|BEYOND", "new|censor 0|NONE", "new|censor 40|NONE", "new|censor 41|BEYOND", "new|censor -1|BEYOND",
        // a sheet's guesses: no such sheet, then MISSING, then the walker and n, then NONE
        "never|strode 0 0 0|NONE", "never|strode 0 0 3|NONE", "never|strode 1 0 20|NONE", "never|strode 0 3 0|BEYOND",
        "never|strode 0 0 21|BEYOND", "new|fits 0 0 0|MISSING", "new|strode 0 0 0|MISSING", "new|kinds 0 0 0|MISSING",
        "new|fits 3 -1 -1|MISSING", "new|strode 3 8 21|MISSING", "new|kinds 3 8 21|MISSING", "new|fits 4 0 0|BEYOND",
        "new|strode -1 0 0|BEYOND", "new|kinds 4 9 99|BEYOND", "bare|fits 0 0 21|MISSING", "bare|strode 0 3 0|MISSING",
        "bare|kinds 0 0 -1|MISSING", "bare|fits 4 3 0|BEYOND", "never|fits 2 0 0|MISSING", "never|fits 0 3 21|BEYOND",
        "never|kinds 0 3 21|BEYOND", "never|kinds 2 3 21|MISSING",
        // spots: BEYOND, MISSING, KIND
        "new|as 0 0|MISSING", "new|as 9 6|MISSING", "new|as 10 0|BEYOND", "new|as -1 0|BEYOND", "new|as 0 7|BEYOND",
        "new|as 0 -1|BEYOND", "busy|as 9 0|MISSING", "busy|as 1 7|BEYOND", "busy|as 0 1|KIND", "busy|as 0 5|KIND",
        "busy|as 0 6|KIND", "busy|as 3 2|KIND", "busy|as 3 6|KIND", "busy|as 0 7|BEYOND", "never|as 0 1|KIND",
        "never|as 0 6|KIND",
        // sheet: no such sheet and other bits, then below 0, then above 40, with bits 0 too
        "busy|sheet 0 1 1|BEYOND", "busy|sheet 0 7 1|BEYOND", "busy|sheet 0 9 1|BEYOND", "busy|sheet 0 15 1|BEYOND",
        "busy|sheet 0 17 1|BEYOND", "busy|sheet 0 24 1|BEYOND", "busy|sheet 0 31 1|BEYOND", "busy|sheet 0 33 1|BEYOND",
        "busy|sheet 0 64 1|BEYOND", "busy|sheet 0 -1 1|BEYOND", "busy|sheet 0 -8 1|BEYOND",
        "busy|sheet 0 2147483647 1|BEYOND", "busy|sheet 0 -2147483648 1|BEYOND", "busy|sheet 4 8 -1|BEYOND",
        "busy|sheet -1 8 -1|BEYOND", "busy|sheet 0 7 -1|BEYOND", "busy|sheet 0 8 -1|SIZE", "busy|sheet 3 16 -1|SIZE",
        "busy|sheet 3 32 -2147483648|SIZE", "busy|sheet 0 0 -1|SIZE", "busy|sheet 0 0 -2147483648|SIZE",
        "busy|sheet 0 8 41|BEYOND", "busy|sheet 0 32 2147483647|BEYOND", "busy|sheet 0 0 41|BEYOND",
        "busy|sheet 0 0 2147483647|BEYOND", "new|sheet 0 0 -1|SIZE", "new|sheet 0 0 41|BEYOND",
        // write: no such sheet, MISSING, no such number
        "new|write 0 0 0|MISSING", "new|write 3 40 0|MISSING", "new|write 3 -1 0|MISSING", "new|write 4 0 0|BEYOND",
        "new|write -1 0 0|BEYOND", "new|write 4 -1 0|BEYOND",
        // copy: no such sheet (either), MISSING, KIND, BEYOND
        "new|copy 0 0 1 0 0|MISSING", "new|copy 0 0 0 0 0|MISSING", "new|copy 0 -1 1 0 0|MISSING", "new|copy 4 0 0 0 0|BEYOND",
        "new|copy 0 0 4 0 0|BEYOND", "new|copy -1 0 4 0 0|BEYOND", "new|copy -1 0 0 0 0|BEYOND", "new|copy 0 0 -1 0 0|BEYOND",
        "full|copy 0 0 1 0 0|MISSING", "full|copy 1 0 0 0 0|MISSING", "full|copy 0 9 1 0 0|MISSING", "full|copy 0 0 4 0 0|BEYOND",
        "busy|copy 0 0 2 0 1|KIND", "busy|copy 2 0 0 0 1|KIND", "busy|copy 0 0 3 0 1|KIND", "busy|copy 2 0 3 0 0|KIND",
        "busy|copy 0 -1 2 0 1|KIND", "busy|copy 0 0 2 -1 1|KIND", "busy|copy 0 0 2 0 -1|KIND", "busy|copy 0 0 2 0 99|KIND",
        "busy|copy 0 4 1 0 3|BEYOND", "busy|copy 0 0 1 1 3|BEYOND", "busy|copy 0 1 0 0 6|BEYOND", "busy|copy 0 0 0 1 6|BEYOND",
        "busy|copy 0 2147483647 1 0 2147483647|BEYOND", "busy|copy 0 0 1 2147483647 1|BEYOND",
        "busy|copy 0 2147483647 1 0 1|BEYOND", "busy|copy 0 -1 1 -1 -1|BEYOND", "busy|copy 0 7 0 0 0|BEYOND",
        // load and judge: no such sheet, MISSING
        "new|load 0|MISSING", "new|load 3|MISSING", "new|load 4|BEYOND", "new|load -1|BEYOND", "new|judge 0|MISSING",
        "new|judge 3|MISSING", "new|judge 4|BEYOND", "new|judge -1|BEYOND",
        // images, counts
        "new|undo|NONE", "bare|undo|NONE", "new|count 8|BEYOND", "new|count -1|BEYOND", "new|status 7|BEYOND",
        "new|status -2|BEYOND", "new|odds 24 0 0|BEYOND", "new|odds 0 13 0|BEYOND", "new|odds 0 0 2|BEYOND"};

    private static void lookAtRows() {
        for (String row : ROWS) {
            String[] parts = row.split("\\|");
            refused(parts[0], parts[1], parts[2]);
        }
    }

    private static final String[] TAKEN = {"117|feed 0 3", "117|feed 0 1", "new|seed 2147483647", "new|seed -2147483648",
        "new|print 0 -1 0", "new|print 23 -1 9", "new|hold 0 -1", "new|hold 9 -1", "new|sheet 0 0 0", "new|sheet 3 0 40",
        "new|sheet 0 8 0", "new|sheet 3 8 40", "new|sheet 0 16 40", "new|sheet 0 32 40", "new|walker 6 23", "full|print 23 7 9",
        "full|meet 0 7", "full|when 7 23", "full|hold 9 7", "full|change 7 5 99999", "full|weightFor 7 23 40",
        "busy|write 0 0 2147483647", "busy|write 0 0 -2147483648", "busy|feed -2147483648 4", "busy|feed 2147483647 4",
        "busy|tide", "busy|wipe", "busy|image", "busy|undo", "busy|tear", "busy|text"};

    private static final String[] ASKED = {"cell 0 0", "cell 23 1", "cell 5 2", "cell 9 3", "of 0 0", "of 2 9", "of 1 6", "of 1 7",
        "of 2 8", "now 0", "now 5", "now 6", "line 0", "line 2", "ahead 0 0 0", "ahead 23 2 100", "ahead 9 1 60", "work 0 0",
        "work 2 100", "when 2 23", "when 0 13", "gone 0", "gone 9", "meet 0 1", "strideFor 0 40", "strideFor 2 0", "start 1 40",
        "kindFor 1 40", "kindFor 0 1", "reachFor 9 40", "weightFor 1 5 0", "away 9 20", "away 0 0", "censor 40", "censor 0",
        "fits 0 0 20", "fits 3 2 0", "kinds 0 0 20", "kinds 2 1 20", "odds 23 12 0", "odds 0 12 1", "as 0 3", "judge 0",
        "judge 3", "count 0", "count 6", "status -1", "status 6"};

    private static void lookAtTakenAndAsked() {
        for (String row : TAKEN) {
            String[] parts = row.split("\\|");
            taken(parts[0], parts[1]);
        }
        for (String call : ASKED) {
            asked("busy", call);
        }
    }

    /** A text with a fault changes nothing but that the tape is empty, and is no finding. */
    private static void lookAtFaults() {
        String[] texts = {"reach 1;", "walker;reach 2;print 0 0 9;reach 25", "print 0 1 9 out;print 1 2 3;x", "thief at 3;thief at 24",
            "rider stride 6 weight 9;reach", "child;child;child;child;child;child", "", " ", "#"};
        for (String text : texts) {
            StringBuilder feeds = new StringBuilder("wipe");
            for (int i = 0; i < text.length(); i++) {
                feeds.append("; feed ").append((int) text.charAt(i)).append(" 1");
            }
            Shore x = behind("busy", feeds.toString());
            long answer = x.ask("text");
            due("fault of '" + text + "'", answer < 0 && answer >= -1 - text.length(), true);
            due("fault of '" + text + "': no finding", Arrays.toString(counted(x)), Arrays.toString(counted(state("busy"))));
            unchanged("fault of '" + text + "'", picture("busy", feeds + "; text"), picture("busy", "wipe"));
        }
    }

    /** seed() and count(6) may tell what looks like a finding: it is none. */
    private static void lookAtSeeds() {
        for (int finding = BEYOND; finding >= BEYOND - 6; finding--) {
            Shore x = state("busy");
            x.ask("seed", finding);
            due("z " + finding, x.ask("count", 6), (long) finding);
            due("z was " + finding, x.ask("seed", 1), (long) finding);
            due("no finding " + finding, Arrays.toString(counted(x)), Arrays.toString(counted(state("busy"))));
        }
    }

    /** status() counts itself from then on; undo() takes no finding back, nor does a new image or a text. */
    private static void lookAtStatus() {
        Shore x = new Shore();
        for (int which = -1; which <= 6; which++) {
            due("a new object's status " + which, x.ask("status", which), 0L);
        }
        due("status 7", x.ask("status", 7), (long) BEYOND);
        due("counted from then on", x.ask("status", 0), 1L);
        due("all", x.ask("status", -1), 1L);
        x.run("image; undo; tear; undo; reach 25; image; sheet 0 8 -1; undo; feed 0 4; text; wipe");
        due("ever: BEYOND", x.ask("status", 0), 2L);
        due("ever: NONE", x.ask("status", 3), 1L);
        due("ever: SIZE", x.ask("status", 6), 1L);
        due("ever: all", x.ask("status", -1), 4L);
        due("ever: FULL", x.ask("status", 1), 0L);
    }

    public static void main(String[] args) {
        lookAtRanges();
        lookAtRows();
        lookAtTakenAndAsked();
        lookAtFaults();
        lookAtSeeds();
        lookAtStatus();
        System.out.println(checks + " answers looked at, " + wrong + " wrong");
        if (wrong != 0) {
            System.exit(1);
        }
    }
}
