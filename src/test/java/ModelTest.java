import java.math.BigInteger;
import java.util.ArrayList;
import java.util.Arrays;
import java.util.List;
import java.util.Random;
import java.util.regex.Matcher;
import java.util.regex.Pattern;

/** Long runs of drawn calls, each answer beside that of a second reading of the document. */
public final class ModelTest {
    private static final int BEYOND = -1000001;
    private static final int FULL = -1000002;
    private static final int KIND = -1000003;
    private static final int NONE = -1000004;
    private static final int MISSING = -1000006;
    private static final int SIZE = -1000007;
    private static final int RUNS = 1500;
    private static final int CALLS = 512;
    private static final String[] NAMES = {"walker", "child", "carter", "horse", "rider", "thief", "runner"};
    private static final String[] METHODS = {"cell", "print", "reach", "tide", "walker", "of", "change", "go", "now", "line",
        "ahead", "work", "when", "gone", "meet", "strideFor", "start", "kindFor", "reachFor", "weightFor", "away", "censor",
        "fits", "strode", "kinds", "tides", "odds", "seed", "feed", "wipe", "text", "hold", "as", "sheet", "write", "copy",
        "load", "judge", "image", "undo", "tear", "count", "status"};

    /** A kind asks the kind above it, as the document tells them. */
    static class Walker {
        int cell;
        int way = 1;
        int stride = 1;
        int weight = 4;
        int steps;

        int kind() {
            return 0;
        }

        int strides(int hour) {
            return stride;
        }

        int press() {
            return weight;
        }

        int looks() {
            return way;
        }

        Walker of(int kind) {
            Walker w = make(kind);
            w.cell = cell;
            w.way = way;
            w.stride = stride;
            w.weight = weight;
            w.steps = steps;
            return w;
        }
    }

    static class Child extends Walker {
        @Override int kind() {
            return 1;
        }

        @Override int strides(int hour) {
            return super.strides(hour) + ((hour & 1) == 1 ? 1 : 0);
        }

        @Override int press() {
            return super.press() / 2;
        }
    }

    static class Runner extends Child {
        @Override int kind() {
            return 6;
        }

        @Override int strides(int hour) {
            return 2 * super.strides(hour);
        }

        @Override int press() {
            return super.press() == 0 ? 0 : super.press() - 1;
        }
    }

    static class Carter extends Walker {
        @Override int kind() {
            return 2;
        }

        @Override int strides(int hour) {
            return 1;
        }

        @Override int press() {
            return super.press() + 3;
        }
    }

    static class Horse extends Carter {
        @Override int kind() {
            return 3;
        }

        @Override int strides(int hour) {
            return super.strides(hour) + stride / 2;
        }

        @Override int press() {
            return super.press() + 1;
        }
    }

    static class Rider extends Horse {
        @Override int kind() {
            return 4;
        }

        @Override int strides(int hour) {
            return super.strides(hour) + 2;
        }

        @Override int press() {
            return stride > 3 ? super.press() : super.press() - 2;
        }
    }

    static class Thief extends Walker {
        @Override int kind() {
            return 5;
        }

        @Override int press() {
            return 1;
        }

        @Override int looks() {
            return super.looks() == 0 ? 1 : 0;
        }
    }

    static Walker make(int kind) {
        switch (kind) {
            case 1: return new Child();
            case 2: return new Carter();
            case 3: return new Horse();
            case 4: return new Rider();
            case 5: return new Thief();
            case 6: return new Runner();
            default: return new Walker();
        }
    }

    static boolean isA(Walker w, int kind) {
        return make(kind).getClass().isInstance(w);
    }

    record Print(int whose, int depth, int toward) { }

    static final Print EMPTY = new Print(-1, 0, 0);

    static final class World {
        Print[] prints = new Print[24];
        List<Walker> walkers = new ArrayList<>();
        int[] spots = new int[10];
        int reach = 8;
        int quoted;
        int hour;
        int z = 1;

        World() {
            Arrays.fill(prints, EMPTY);
            Arrays.fill(spots, -1);
        }

        World twin() {
            World w = new World();
            w.prints = prints.clone();
            for (Walker walker : walkers) {
                w.walkers.add(walker.of(walker.kind()));
            }
            w.spots = spots.clone();
            w.reach = reach;
            w.quoted = quoted;
            w.hour = hour;
            w.z = z;
            return w;
        }

        World behind(int n, int away) {
            World w = twin();
            for (int i = 0; i < n; i++) {
                w.anHour(away);
            }
            return w;
        }

        void anHour(int away) {
            for (int i = 0; i < walkers.size(); i++) {
                if ((away & 1 << i) != 0) {
                    continue;
                }
                Walker w = walkers.get(i);
                boolean turned = false;
                for (int left = w.strides(hour); left > 0; left--) {
                    int next = w.way == 1 ? w.cell + 1 : w.cell - 1;
                    if (next < 0 || next > 23) {
                        turned = true;
                        break;
                    }
                    w.cell = next;
                }
                int before = prints[w.cell].whose;
                if (before >= 0 && before != i && quoted < 99999) {
                    quoted++;
                }
                prints[w.cell] = new Print(i, Math.min(9, w.press()), w.looks());
                if (turned) {
                    w.way = w.way == 1 ? 0 : 1;
                }
                if (w.steps < 99999) {
                    w.steps++;
                }
            }
            hour++;
            if (hour % 6 == 0) {
                tide();
            }
        }

        int tide() {
            int gone = 0;
            for (int c = 0; c < reach; c++) {
                Print p = prints[c];
                if (p.depth >= 8) {
                    prints[c] = new Print(p.whose, p.depth - 1, p.toward);
                } else if (p.whose >= 0) {
                    prints[c] = EMPTY;
                    gone++;
                }
            }
            return gone;
        }

        int draw() {
            z = z * 1103515245 + 12345;
            return z >>> 8;
        }

        int work(int w) {
            int n = 0;
            for (Print p : prints) {
                n += p.whose == w ? 1 : 0;
            }
            return n;
        }

        int printed() {
            return 24 - work(-1);
        }

        int steps() {
            return walkers.stream().mapToInt(w -> w.steps).sum();
        }

        int get(int w, int what) {
            Walker x = walkers.get(w);
            return new int[] {x.kind(), x.cell, x.way, x.stride, x.weight, x.steps}[what];
        }

        World with(int w, int what, int v) {
            World t = twin();
            t.set(w, what, v);
            return t;
        }

        void set(int w, int what, int v) {
            Walker x = walkers.get(w);
            switch (what) {
                case 0: walkers.set(w, x.of(v)); break;
                case 1: x.cell = v; break;
                case 2: x.way = v; break;
                case 3: x.stride = v; break;
                case 4: x.weight = v; break;
                default: x.steps = v; break;
            }
        }
    }

    static final class Model {
        World world = new World();
        World kept;
        String tape = "";
        int[][] sheets = new int[4][];
        int[] bits = new int[4];
        int[] status = new int[7];

        long call(String name, int... a) {
            long answer = answer(name, a);
            boolean free = name.equals("seed") || name.equals("count") && a[0] == 6;
            if (answer <= BEYOND && answer >= SIZE && !free) {
                status[(int) (BEYOND - answer)]++;
            }
            return answer;
        }

        boolean cell(int c) {
            return c >= 0 && c < 24;
        }

        boolean walker(int w) {
            return w >= 0 && w < world.walkers.size();
        }

        boolean in(int v, int from, int to) {
            return from <= v && v <= to;
        }

        private long answer(String name, int[] a) {
            switch (name) {
                case "cell": case "print": case "reach": case "tide": case "walker": case "of": case "change":
                    return shore(name, a);
                case "go": case "now": case "line":
                    return hours(name, a);
                case "ahead": case "work": case "when": case "gone": case "meet":
                    return will(name, a);
                case "strideFor": case "start": case "kindFor": case "reachFor": case "weightFor": case "away": case "censor":
                    return how(name, a);
                case "fits": case "strode": case "kinds":
                    return who(name, a);
                case "tides": case "odds": case "seed": case "feed": case "wipe": case "text":
                    return draws(name, a);
                case "hold": case "as": case "sheet": case "write": case "copy": case "load": case "judge":
                    return sheets(name, a);
                default:
                    return images(name, a);
            }
        }

        private long shore(String name, int[] a) {
            World w = world;
            switch (name) {
                case "cell": {
                    if (!cell(a[0]) || !in(a[1], 0, 3)) {
                        return BEYOND;
                    }
                    Print p = w.prints[a[0]];
                    int set = 0;
                    for (int i = 0; i < w.walkers.size(); i++) {
                        set += w.walkers.get(i).cell == a[0] ? 1 << i : 0;
                    }
                    return new int[] {p.whose, p.depth, p.toward, set}[a[1]];
                }
                case "print": {
                    if (!cell(a[0]) || a[1] != -1 && !walker(a[1]) || !in(a[2], 0, 9)) {
                        return BEYOND;
                    }
                    int before = w.prints[a[0]].whose;
                    w.prints[a[0]] = a[1] == -1 ? EMPTY : new Print(a[1], a[2], w.walkers.get(a[1]).way);
                    return before;
                }
                case "reach": {
                    if (!in(a[0], 0, 24)) {
                        return BEYOND;
                    }
                    int before = w.reach;
                    w.reach = a[0];
                    return before;
                }
                case "tide":
                    return w.tide();
                case "walker": {
                    if (!in(a[0], 0, 6) || !cell(a[1])) {
                        return BEYOND;
                    }
                    if (w.walkers.size() == 8) {
                        return FULL;
                    }
                    Walker x = make(a[0]);
                    x.cell = a[1];
                    w.walkers.add(x);
                    return w.walkers.size() - 1;
                }
                case "of": {
                    if (!walker(a[0]) || !in(a[1], 0, 9)) {
                        return BEYOND;
                    }
                    Walker x = w.walkers.get(a[0]);
                    int set = 0;
                    for (int c = 0; c < 24; c++) {
                        set += w.prints[c].whose == a[0] ? 1 << c : 0;
                    }
                    return a[1] < 6 ? w.get(a[0], a[1])
                        : new int[] {x.strides(w.hour), Math.min(9, x.press()), x.looks(), set}[a[1] - 6];
                }
                default: {
                    if (!walker(a[0]) || !in(a[1], 0, 5)
                        || !in(a[2], a[1] == 3 || a[1] == 4 ? 1 : 0, new int[] {6, 23, 1, 6, 9, 99999}[a[1]])) {
                        return BEYOND;
                    }
                    int before = w.get(a[0], a[1]);
                    w.set(a[0], a[1], a[2]);
                    return before;
                }
            }
        }

        private long hours(String name, int[] a) {
            if (name.equals("go")) {
                if (!in(a[0], 1, 60)) {
                    return BEYOND;
                }
                world = world.behind(a[0], 0);
                return world.printed();
            }
            if (name.equals("line")) {
                if (!walker(a[0])) {
                    return BEYOND;
                }
                StringBuilder row = new StringBuilder();
                for (Print p : world.prints) {
                    row.append(p.whose == a[0] ? 'x' : ' ');
                }
                return Arrays.stream(row.toString().split(" ")).mapToInt(String::length).max().orElse(0);
            }
            int set = 0;
            int depths = 0;
            for (int c = 0; c < 24; c++) {
                set += world.prints[c].whose >= 0 ? 1 << c : 0;
                depths += world.prints[c].depth;
            }
            int author = -1;
            for (int w = world.walkers.size() - 1; w >= 0; w--) {
                author = author < 0 || world.work(w) >= world.work(author) ? w : author;
            }
            int[] all = {world.hour, world.printed(), world.quoted, set, depths, author, world.steps()};
            return in(a[0], 0, 6) ? all[a[0]] : BEYOND;
        }

        private long will(String name, int[] a) {
            switch (name) {
                case "ahead": {
                    if (!cell(a[0]) || !in(a[1], 0, 2) || !in(a[2], 0, 100)) {
                        return BEYOND;
                    }
                    Print p = world.behind(a[2], 0).prints[a[0]];
                    return new int[] {p.whose, p.depth, p.toward}[a[1]];
                }
                case "work":
                    return walker(a[0]) && in(a[1], 0, 100) ? world.behind(a[1], 0).work(a[0]) : BEYOND;
                case "when":
                    return walker(a[0]) && cell(a[1]) ? until(a[1], a[0]) : BEYOND;
                case "gone":
                    return cell(a[0]) ? until(a[0], -1) : BEYOND;
                default: {
                    if (!walker(a[0]) || !walker(a[1]) || a[0] == a[1]) {
                        return BEYOND;
                    }
                    World w = world.twin();
                    for (int h = 0; h <= 200; h++) {
                        if (w.walkers.get(a[0]).cell == w.walkers.get(a[1]).cell) {
                            return h;
                        }
                        w.anHour(0);
                    }
                    return NONE;
                }
            }
        }

        private long until(int c, int whose) {
            World w = world.twin();
            for (int h = 0; h <= 200; h++) {
                if (w.prints[c].whose == whose) {
                    return h;
                }
                w.anHour(0);
            }
            return NONE;
        }

        private long how(String name, int[] a) {
            switch (name) {
                case "strideFor": return most(a, 3, 1, 6);
                case "start": return most(a, 1, 0, 23);
                case "kindFor": return most(a, 0, 0, 6);
                case "reachFor": {
                    if (!cell(a[0]) || !in(a[1], 0, 40)) {
                        return BEYOND;
                    }
                    int best = NONE;
                    for (int r = 0; r <= 24; r++) {
                        World w = world.twin();
                        w.reach = r;
                        best = w.behind(a[1], 0).prints[a[0]].whose >= 0 ? r : best;
                    }
                    return best;
                }
                case "weightFor": {
                    if (!walker(a[0]) || !cell(a[1]) || !in(a[2], 0, 40)) {
                        return BEYOND;
                    }
                    int best = NONE;
                    for (int v = 9; v >= 1; v--) {
                        best = world.with(a[0], 4, v).behind(a[2], 0).prints[a[1]].whose == a[0] ? v : best;
                    }
                    return best;
                }
                case "away": {
                    if (!cell(a[0]) || !in(a[1], 0, 20)) {
                        return BEYOND;
                    }
                    for (int size = 0; size <= world.walkers.size(); size++) {
                        for (int set = 0; set < 1 << world.walkers.size(); set++) {
                            if (Integer.bitCount(set) == size
                                && world.behind(a[1], set).prints[a[0]].whose == world.prints[a[0]].whose) {
                                return set;
                            }
                        }
                    }
                    return NONE;
                }
                default: {
                    if (!in(a[0], 0, 40)) {
                        return BEYOND;
                    }
                    int best = NONE;
                    for (int w = world.walkers.size() - 1; w >= 0; w--) {
                        best = best < 0 || world.behind(a[0], 1 << w).quoted <= world.behind(a[0], 1 << best).quoted ? w : best;
                    }
                    return best;
                }
            }
        }

        private long most(int[] a, int what, int from, int to) {
            if (!walker(a[0]) || !in(a[1], 0, 40)) {
                return BEYOND;
            }
            int best = to;
            int most = -1;
            for (int v = to; v >= from; v--) {
                int size = world.with(a[0], what, v).behind(a[1], 0).work(a[0]);
                if (size >= most) {
                    best = v;
                    most = size;
                }
            }
            return best;
        }

        private long who(String name, int[] a) {
            if (!in(a[0], 0, 3)) {
                return BEYOND;
            }
            if (sheets[a[0]] == null) {
                return MISSING;
            }
            if (!walker(a[1]) || !in(a[2], 0, 20)) {
                return BEYOND;
            }
            boolean kinds = name.equals("kinds");
            List<Integer> fit = new ArrayList<>();
            for (int v = kinds ? 0 : 1; v <= 6; v++) {
                World w = world.with(a[1], kinds ? 0 : 3, v).behind(a[2], 0);
                boolean so = true;
                for (int i = 0; i < Math.min(24, sheets[a[0]].length); i++) {
                    int told = sheets[a[0]][i];
                    so &= told == -1 || told == 1 && w.prints[i].whose == a[1] || told == 0 && w.prints[i].whose != a[1];
                }
                if (so) {
                    fit.add(v);
                }
            }
            if (name.equals("fits")) {
                return fit.size();
            }
            return kinds ? fit.stream().mapToInt(v -> 1 << v).sum() : fit.isEmpty() ? NONE : fit.get(0);
        }

        private long draws(String name, int[] a) {
            switch (name) {
                case "tides":
                    if (!in(a[0], 1, 20)) {
                        return BEYOND;
                    }
                    for (int i = 0; i < a[0]; i++) {
                        world.reach = world.draw() % 25;
                        int w = world.draw() % 8;
                        if (walker(w) && world.walkers.get(w).stride < 6) {
                            world.walkers.get(w).stride++;
                        }
                        world.anHour(0);
                    }
                    return world.printed();
                case "odds": {
                    if (!cell(a[0]) || !in(a[1], 0, 12) || !in(a[2], 0, 1)) {
                        return BEYOND;
                    }
                    BigInteger above = BigInteger.valueOf(a[0] + 1).pow(a[1]);
                    BigInteger below = BigInteger.valueOf(25).pow(a[1]);
                    BigInteger g = above.gcd(below);
                    return (a[2] == 0 ? above : below).divide(g).longValueExact();
                }
                case "seed": {
                    int before = world.z;
                    world.z = a[0];
                    return before;
                }
                case "feed":
                    if (!in(a[1], 1, 4)) {
                        return BEYOND;
                    }
                    if (tape.length() + a[1] > 120) {
                        return FULL;
                    }
                    for (int i = a[1]; i > 0; i--) {
                        tape += (char) (a[0] >> 8 * (i - 1) & 255);
                    }
                    return tape.length();
                case "wipe": {
                    int before = tape.length();
                    tape = "";
                    return before;
                }
                default: {
                    World w = world.twin();
                    long answer = new Text(tape, w).read();
                    world = answer > 0 ? w : world;
                    tape = "";
                    return answer;
                }
            }
        }

        private long sheets(String name, int[] a) {
            boolean spot = name.equals("hold") || name.equals("as");
            if (spot) {
                return spots(name, a);
            }
            if (!in(a[0], 0, 3) || name.equals("copy") && !in(a[2], 0, 3)) {
                return BEYOND;
            }
            if (name.equals("sheet")) {
                if (a[1] != 0 && a[1] != 8 && a[1] != 16 && a[1] != 32) {
                    return BEYOND;
                }
                if (a[2] < 0 || a[2] > 40) {
                    return a[2] < 0 ? SIZE : BEYOND;
                }
                sheets[a[0]] = a[1] == 0 ? null : new int[a[2]];
                bits[a[0]] = a[1];
                return a[1] == 0 ? 0 : a[2];
            }
            int[] s = sheets[a[0]];
            if (s == null || name.equals("copy") && sheets[a[2]] == null) {
                return MISSING;
            }
            switch (name) {
                case "write":
                    if (!in(a[1], 0, s.length - 1)) {
                        return BEYOND;
                    }
                    s[a[1]] = bits[a[0]] == 8 ? (byte) a[2] : bits[a[0]] == 16 ? (short) a[2] : a[2];
                    return 1;
                case "copy":
                    if (bits[a[0]] != bits[a[2]]) {
                        return KIND;
                    }
                    if (a[1] < 0 || a[3] < 0 || a[4] < 0 || (long) a[1] + a[4] > s.length
                        || (long) a[3] + a[4] > sheets[a[2]].length) {
                        return BEYOND;
                    }
                    int[] part = Arrays.copyOfRange(s, a[1], a[1] + a[4]);
                    for (int i = 0; i < part.length; i++) {
                        sheets[a[2]][a[3] + i] = part[i];
                    }
                    return a[4];
                case "load": {
                    int n = 0;
                    while (n < s.length && walker(n) && in(s[n], 1, 6)) {
                        world.walkers.get(n).stride = s[n];
                        n++;
                    }
                    return n;
                }
                default: {
                    int n = 0;
                    while (n < s.length && n < 24 && s[n] == world.prints[n].whose) {
                        n++;
                    }
                    return n == s.length ? 0 : n + 1;
                }
            }
        }

        private long spots(String name, int[] a) {
            if (name.equals("hold")) {
                if (!in(a[0], 0, 9) || a[1] != -1 && !walker(a[1])) {
                    return BEYOND;
                }
                world.spots[a[0]] = a[1];
                return 1;
            }
            if (!in(a[0], 0, 9) || !in(a[1], 0, 6)) {
                return BEYOND;
            }
            int held = world.spots[a[0]];
            if (held < 0) {
                return MISSING;
            }
            return isA(world.walkers.get(held), a[1]) ? held : KIND;
        }

        private long images(String name, int[] a) {
            switch (name) {
                case "image":
                    kept = world.twin();
                    return 1;
                case "undo":
                    if (kept == null) {
                        return NONE;
                    }
                    world = kept.twin();
                    return world.hour;
                case "tear": {
                    int before = kept == null ? 0 : 1;
                    kept = null;
                    return before;
                }
                case "count": {
                    int held = 0;
                    for (int spot : world.spots) {
                        held += spot >= 0 ? 1 : 0;
                    }
                    int[] all = {world.hour, world.walkers.size(), world.printed(), world.quoted, world.steps(),
                        tape.length(), world.z, held};
                    return in(a[0], 0, 7) ? all[a[0]] : BEYOND;
                }
                default:
                    if (a[0] == -1) {
                        return Arrays.stream(status).sum();
                    }
                    return in(a[0], 0, 6) ? status[a[0]] : BEYOND;
            }
        }
    }

    /** Tokens by a pattern, then the items one by one. */
    static final class Text {
        private static final Pattern TOKEN = Pattern.compile(" *([a-z]+|[0-9]+|;|[^ ])", Pattern.DOTALL);
        private final List<String> tokens = new ArrayList<>();
        private final List<Integer> places = new ArrayList<>();
        private final World world;
        private int at;

        Text(String tape, World world) {
            this.world = world;
            Matcher m = TOKEN.matcher(tape);
            while (m.find()) {
                tokens.add(m.group(1));
                places.add(m.start(1));
            }
            tokens.add("");
            places.add(tape.length());
        }

        long read() {
            int items = 0;
            do {
                if (!item()) {
                    return -1 - places.get(at);
                }
                items++;
            } while (take(";"));
            return tokens.get(at).isEmpty() ? items : -1 - places.get(at);
        }

        private boolean take(String word) {
            boolean is = tokens.get(at).equals(word);
            at += is ? 1 : 0;
            return is;
        }

        private int number(int from, int to) {
            String t = tokens.get(at);
            if (!t.matches("[0-9]+")) {
                return -1;
            }
            BigInteger v = new BigInteger(t);
            if (v.compareTo(BigInteger.valueOf(from)) < 0 || v.compareTo(BigInteger.valueOf(to)) > 0) {
                return -1;
            }
            at++;
            return v.intValue();
        }

        private boolean item() {
            int kind = Arrays.asList(NAMES).indexOf(tokens.get(at));
            if (kind >= 0 && world.walkers.size() == 8) {
                return false;
            }
            if (kind >= 0) {
                at++;
                Walker w = make(kind);
                world.walkers.add(w);
                if (take("at") && (w.cell = number(0, 23)) < 0) {
                    return false;
                }
                w.way = take("out") ? 0 : 1;
                if (take("stride") && (w.stride = number(1, 6)) < 0) {
                    return false;
                }
                return !take("weight") || (w.weight = number(1, 9)) >= 0;
            }
            if (take("reach")) {
                world.reach = number(0, 24);
                return world.reach >= 0;
            }
            if (!take("print")) {
                return false;
            }
            int[] most = {23, world.walkers.size() - 1, 9};
            int[] told = new int[3];
            for (int i = 0; i < 3; i++) {
                told[i] = number(0, most[i]);
                if (told[i] < 0) {
                    return false;
                }
            }
            world.prints[told[0]] = new Print(told[1], told[2], take("out") ? 0 : 1);
            return true;
        }
    }

    private static long ask(PrintShore x, String name, int[] a) {
        switch (name) {
            case "cell": return x.cell(a[0], a[1]);
            case "print": return x.print(a[0], a[1], a[2]);
            case "reach": return x.reach(a[0]);
            case "tide": return x.tide();
            case "walker": return x.walker(a[0], a[1]);
            case "of": return x.of(a[0], a[1]);
            case "change": return x.change(a[0], a[1], a[2]);
            case "go": return x.go(a[0]);
            case "now": return x.now(a[0]);
            case "line": return x.line(a[0]);
            case "ahead": return x.ahead(a[0], a[1], a[2]);
            case "work": return x.work(a[0], a[1]);
            case "when": return x.when(a[0], a[1]);
            case "gone": return x.gone(a[0]);
            case "meet": return x.meet(a[0], a[1]);
            case "strideFor": return x.strideFor(a[0], a[1]);
            case "start": return x.start(a[0], a[1]);
            case "kindFor": return x.kindFor(a[0], a[1]);
            case "reachFor": return x.reachFor(a[0], a[1]);
            case "weightFor": return x.weightFor(a[0], a[1], a[2]);
            case "away": return x.away(a[0], a[1]);
            case "censor": return x.censor(a[0]);
            case "fits": return x.fits(a[0], a[1], a[2]);
            case "strode": return x.strode(a[0], a[1], a[2]);
            case "kinds": return x.kinds(a[0], a[1], a[2]);
            case "tides": return x.tides(a[0]);
            case "odds": return x.odds(a[0], a[1], a[2]);
            case "seed": return x.seed(a[0]);
            case "feed": return x.feed(a[0], a[1]);
            case "wipe": return x.wipe();
            case "text": return x.text();
            case "hold": return x.hold(a[0], a[1]);
            case "as": return x.as(a[0], a[1]);
            case "sheet": return x.sheet(a[0], a[1], a[2]);
            case "write": return x.write(a[0], a[1], a[2]);
            case "copy": return x.copy(a[0], a[1], a[2], a[3], a[4]);
            case "load": return x.load(a[0]);
            case "judge": return x.judge(a[0]);
            case "image": return x.image();
            case "undo": return x.undo();
            case "tear": return x.tear();
            case "count": return x.count(a[0]);
            default: return x.status(a[0]);
        }
    }

    /** The greatest value that is fine for each argument; drawn from a little below 0 to a little above it. */
    private static int[] bounds(String name) {
        switch (name) {
            case "cell": return new int[] {23, 3};
            case "print": return new int[] {23, 7, 9};
            case "reach": return new int[] {24};
            case "walker": return new int[] {6, 23};
            case "of": return new int[] {7, 9};
            case "change": return new int[] {7, 5, 9};
            case "go": case "tides": return new int[] {20};
            case "now": case "status": return new int[] {6};
            case "line": return new int[] {7};
            case "ahead": return new int[] {23, 2, 100};
            case "work": return new int[] {7, 100};
            case "when": return new int[] {7, 23};
            case "gone": return new int[] {23};
            case "meet": return new int[] {7, 7};
            case "strideFor": case "start": case "kindFor": return new int[] {7, 40};
            case "reachFor": return new int[] {23, 40};
            case "weightFor": return new int[] {7, 23, 40};
            case "away": return new int[] {23, 20};
            case "censor": return new int[] {40};
            case "fits": case "strode": case "kinds": return new int[] {3, 7, 20};
            case "odds": return new int[] {23, 12, 1};
            case "seed": return new int[] {1000000};
            case "feed": return new int[] {1000000, 4};
            case "hold": return new int[] {9, 7};
            case "as": return new int[] {9, 6};
            case "sheet": return new int[] {3, 4, 40};
            case "write": return new int[] {3, 30, 2};
            case "copy": return new int[] {3, 10, 3, 10, 20};
            case "load": case "judge": return new int[] {3};
            case "count": return new int[] {7};
            default: return new int[0];
        }
    }

    private static int[] drawArguments(Random r, String name) {
        int[] a = bounds(name).clone();
        for (int i = 0; i < a.length; i++) {
            int most = a[i];
            int odd = r.nextInt(40);
            if (odd == 0) {
                a[i] = new int[] {Integer.MIN_VALUE, Integer.MAX_VALUE, -1, most + 1, -2}[r.nextInt(5)];
            } else {
                a[i] = r.nextInt(most + 1);
            }
        }
        if (name.equals("sheet") && a[1] >= 0 && a[1] <= 4) {
            a[1] = new int[] {8, 16, 32, 8, r.nextInt(40)}[a[1]];
        }
        if (name.equals("write") && r.nextInt(3) > 0) {
            a[2] = r.nextInt(4) == 0 ? r.nextInt() : r.nextInt(12) - 2;
        }
        if (name.equals("print") && r.nextInt(9) == 0) {
            a[1] = -1;
        }
        if (name.equals("seed") && r.nextInt(3) == 0) {
            a[0] = BEYOND - r.nextInt(7);
        }
        return a;
    }

    private static final String[] PIECES = {"walker", "child", "carter", "horse", "rider", "thief", "runner", "at", "out",
        "stride", "weight", "reach", "print", ";", ";", " ", "  ", "7", "0", "24", "3", "at 5", "stride 2", "weight 9",
        "print 3 0 8", "reach 5", "walker at 9 out stride 4", "x", "#", "001", "9999999999999", "\t", "\u00e9", "print 23 1 9 out"};

    private static String drawText(Random r) {
        StringBuilder text = new StringBuilder();
        int pieces = 1 + r.nextInt(9);
        for (int i = 0; i < pieces; i++) {
            if (r.nextInt(3) > 0) {
                text.append(drawItem(r)).append(i + 1 < pieces || r.nextInt(9) == 0 ? ";" : "");
            } else {
                text.append(PIECES[r.nextInt(PIECES.length)]).append(r.nextInt(4) == 0 ? "" : " ");
            }
        }
        return text.substring(0, Math.min(120, text.length()));
    }

    private static String drawItem(Random r) {
        int which = r.nextInt(12);
        if (which == 0) {
            return "reach " + r.nextInt(26);
        }
        if (which < 4) {
            return "print " + r.nextInt(25) + " " + r.nextInt(3) + " " + r.nextInt(10) + (r.nextBoolean() ? " out" : "");
        }
        return NAMES[r.nextInt(7)] + (r.nextBoolean() ? " at" + r.nextInt(24) : "") + (r.nextBoolean() ? " out" : "")
            + (r.nextBoolean() ? " stride " + (1 + r.nextInt(6)) : "") + (r.nextBoolean() ? "weight" + (1 + r.nextInt(9)) : "");
    }

    private static int run(int seed) {
        Random r = new Random(seed);
        PrintShore x = new PrintShore();
        Model m = new Model();
        StringBuilder told = new StringBuilder();
        int calls = 0;
        while (calls < CALLS) {
            List<String> names = new ArrayList<>();
            List<int[]> arguments = new ArrayList<>();
            String name = METHODS[r.nextInt(METHODS.length)];
            if (name.equals("feed") && r.nextInt(3) > 0) {
                String text = drawText(r);
                names.add("wipe");
                arguments.add(new int[0]);
                for (int i = 0; i < text.length(); i++) {
                    names.add("feed");
                    arguments.add(new int[] {text.charAt(i), 1});
                }
                names.add("text");
                arguments.add(new int[0]);
            } else {
                names.add(name);
                arguments.add(drawArguments(r, name));
            }
            for (int i = 0; i < names.size() && calls < CALLS; i++) {
                calls++;
                int[] a = arguments.get(i);
                long want = m.call(names.get(i), a);
                long got = ask(x, names.get(i), a);
                told.append(names.get(i)).append(Arrays.toString(a)).append(' ');
                if (got != want) {
                    System.out.println("run " + seed + ": " + told + "answered " + got + ", due is " + want);
                    return 1;
                }
            }
        }
        return 0;
    }

    public static void main(String[] args) {
        int wrong = 0;
        for (int seed = 1; seed <= RUNS && wrong < 5; seed++) {
            wrong += run(seed);
        }
        System.out.println(wrong == 0 ? RUNS + " runs are as due" : wrong + " runs are not as due");
        if (wrong != 0) {
            System.exit(1);
        }
    }
}
