/** A library of footprints on a mud coast; README.md says how to use it. */
public final class PrintShore {
    private static final int BEYOND = -1000001;
    private static final int FULL = BEYOND - 1;
    private static final int KIND = BEYOND - 2;
    private static final int NONE = BEYOND - 3;
    private static final int STATE = BEYOND - 4;
    private static final int MISSING = BEYOND - 5;
    private static final int SIZE = BEYOND - 6;
    private static final int FINDINGS = 7;
    private static final int NO_FINDING = 0;

    private static final int CELLS = 24;
    private static final int MOST_WALKERS = 8;
    private static final int MOST_REACH = 24;
    private static final int MOST_DEPTH = 9;
    private static final int MOST_COUNT = 99999;
    private static final int SPOTS = 10;
    private static final int NOBODY = -1;
    private static final int NOBODY_AWAY = 0;

    private static final int WALKER = 0;
    private static final int CHILD = 1;
    private static final int CARTER = 2;
    private static final int HORSE = 3;
    private static final int RIDER = 4;
    private static final int THIEF = 5;
    private static final int RUNNER = 6;
    private static final int KINDS = 7;
    /** The kind right above each kind; -1 above WALKER. */
    private static final int[] ABOVE = {-1, WALKER, WALKER, CARTER, HORSE, WALKER, CHILD};

    /** What a print has: the rows of Shore.prints, numbered as cell() and ahead() ask. */
    private static final int WHOSE = 0;
    private static final int DEPTH = 1;
    private static final int TOWARD = 2;
    private static final int PRINT_ROWS = 3;

    /** What a walker has: the rows of Shore.traits, numbered as of() and change() ask. */
    private static final int KIND_OF = 0;
    private static final int AT = 1;
    private static final int WAY = 2;
    private static final int STRIDE = 3;
    private static final int WEIGHT = 4;
    private static final int STEPS = 5;
    private static final int TRAITS = 6;
    private static final int[] TRAIT_LEAST = {0, 0, 0, 1, 1, 0};
    private static final int[] TRAIT_MOST = {6, 23, 1, 6, 9, MOST_COUNT};

    private static final int LOOK_AHEAD = 200;
    private static final int REACHES = 25;

    private final Shore shore;
    /** Every look ahead runs here, so that no call makes objects. */
    private final Shore trial;
    private final Shore kept;
    private boolean isKept;
    private final Tape tape;
    private final Sheets sheets;
    private final int[] findings;

    public PrintShore() {
        shore = new Shore();
        trial = new Shore();
        kept = new Shore();
        tape = new Tape();
        sheets = new Sheets();
        findings = new int[FINDINGS];
    }

    // ---- shore, walkers

    public int cell(int cell, int what) {
        if (!isCell(cell) || !within(what, 0, 3)) {
            return tell(BEYOND);
        }
        if (what < PRINT_ROWS) {
            return shore.prints[what][cell];
        }
        return shore.walkersAt(cell);
    }

    public int print(int cell, int walker, int depth) {
        if (!isCell(cell) || !shore.isWalkerOrNobody(walker) || !within(depth, 0, MOST_DEPTH)) {
            return tell(BEYOND);
        }
        int before = shore.prints[WHOSE][cell];
        if (walker == NOBODY) {
            shore.clear(cell);
        } else {
            shore.put(cell, walker, depth, shore.traits[WAY][walker]);
        }
        return before;
    }

    public int reach(int v) {
        if (!within(v, 0, MOST_REACH)) {
            return tell(BEYOND);
        }
        int before = shore.reach;
        shore.reach = v;
        return before;
    }

    public int tide() {
        return shore.comeTide();
    }

    public int walker(int kind, int cell) {
        if (!within(kind, 0, KINDS - 1) || !isCell(cell)) {
            return tell(BEYOND);
        }
        if (!shore.hasRoom()) {
            return tell(FULL);
        }
        return shore.add(kind, cell);
    }

    public int of(int walker, int what) {
        if (!shore.isWalker(walker) || !within(what, 0, 9)) {
            return tell(BEYOND);
        }
        switch (what) {
            case 6:
                return shore.strides(walker);
            case 7:
                return shore.presses(walker);
            case 8:
                return shore.looks(walker);
            case 9:
                return shore.workSet(walker);
            default:
                return shore.traits[what][walker];
        }
    }

    public int change(int walker, int what, int v) {
        if (!shore.isWalker(walker) || !within(what, 0, TRAITS - 1)
                || !within(v, TRAIT_LEAST[what], TRAIT_MOST[what])) {
            return tell(BEYOND);
        }
        int before = shore.traits[what][walker];
        shore.traits[what][walker] = v;
        return before;
    }

    // ---- hours

    public int go(int n) {
        if (!within(n, 1, 60)) {
            return tell(BEYOND);
        }
        if (shore.hour + n > MOST_COUNT) {
            return tell(STATE);
        }
        shore.passHours(n, NOBODY_AWAY);
        return shore.printCount();
    }

    public int now(int what) {
        switch (what) {
            case 0:
                return shore.hour;
            case 1:
                return shore.printCount();
            case 2:
                return shore.quoted;
            case 3:
                return shore.printSet();
            case 4:
                return shore.depthSum();
            case 5:
                return shore.greatestAuthor();
            case 6:
                return shore.stepSum();
            default:
                return tell(BEYOND);
        }
    }

    public int line(int walker) {
        if (!shore.isWalker(walker)) {
            return tell(BEYOND);
        }
        return shore.longestLine(walker);
    }

    // ---- what will be (nothing changes)

    public int ahead(int cell, int what, int n) {
        if (!isCell(cell) || !within(what, 0, PRINT_ROWS - 1) || !within(n, 0, 100)) {
            return tell(BEYOND);
        }
        trial.become(shore);
        trial.passHours(n, NOBODY_AWAY);
        return trial.prints[what][cell];
    }

    public int work(int walker, int n) {
        if (!shore.isWalker(walker) || !within(n, 0, 100)) {
            return tell(BEYOND);
        }
        trial.become(shore);
        trial.passHours(n, NOBODY_AWAY);
        return trial.workSize(walker);
    }

    public int when(int walker, int cell) {
        if (!shore.isWalker(walker) || !isCell(cell)) {
            return tell(BEYOND);
        }
        return hoursUntilWhose(cell, walker);
    }

    public int gone(int cell) {
        if (!isCell(cell)) {
            return tell(BEYOND);
        }
        return hoursUntilWhose(cell, NOBODY);
    }

    public int meet(int a, int b) {
        if (!shore.isWalker(a) || !shore.isWalker(b) || a == b) {
            return tell(BEYOND);
        }
        trial.become(shore);
        for (int hours = 0; hours <= LOOK_AHEAD; hours++) {
            if (trial.traits[AT][a] == trial.traits[AT][b]) {
                return hours;
            }
            trial.passHour(NOBODY_AWAY);
        }
        return tell(NONE);
    }

    // ---- how to write

    public int strideFor(int walker, int n) {
        return traitForMostWork(walker, STRIDE, n);
    }

    public int start(int walker, int n) {
        return traitForMostWork(walker, AT, n);
    }

    public int kindFor(int walker, int n) {
        return traitForMostWork(walker, KIND_OF, n);
    }

    public int reachFor(int cell, int n) {
        if (!isCell(cell) || !within(n, 0, 40)) {
            return tell(BEYOND);
        }
        for (int reach = MOST_REACH; reach >= 0; reach--) {
            trial.become(shore);
            trial.reach = reach;
            trial.passHours(n, NOBODY_AWAY);
            if (trial.prints[WHOSE][cell] != NOBODY) {
                return reach;
            }
        }
        return tell(NONE);
    }

    public int weightFor(int walker, int cell, int n) {
        if (!shore.isWalker(walker) || !isCell(cell) || !within(n, 0, 40)) {
            return tell(BEYOND);
        }
        for (int weight = TRAIT_LEAST[WEIGHT]; weight <= TRAIT_MOST[WEIGHT]; weight++) {
            tryTrait(walker, WEIGHT, weight, n);
            if (trial.prints[WHOSE][cell] == walker) {
                return weight;
            }
        }
        return tell(NONE);
    }

    public int away(int cell, int n) {
        if (!isCell(cell) || !within(n, 0, 20)) {
            return tell(BEYOND);
        }
        int sets = 1 << shore.walkers;
        int fewest = NOBODY;
        for (int set = 0; set < sets; set++) {
            boolean fewer = fewest == NOBODY || Integer.bitCount(set) < Integer.bitCount(fewest);
            if (fewer && staysWithout(set, cell, n)) {
                fewest = set;
            }
        }
        return fewest == NOBODY ? tell(NONE) : fewest;
    }

    public int censor(int n) {
        if (!within(n, 0, 40)) {
            return tell(BEYOND);
        }
        if (shore.walkers == 0) {
            return tell(NONE);
        }
        int best = 0;
        int least = MOST_COUNT + 1;
        for (int walker = 0; walker < shore.walkers; walker++) {
            trial.become(shore);
            trial.passHours(n, 1 << walker);
            if (trial.quoted < least) {
                least = trial.quoted;
                best = walker;
            }
        }
        return best;
    }

    // ---- who was it

    public int fits(int s, int walker, int n) {
        int finding = guessFinding(s, walker, n);
        if (finding != NO_FINDING) {
            return tell(finding);
        }
        return Integer.bitCount(fittingSet(s, walker, STRIDE, n));
    }

    public int strode(int s, int walker, int n) {
        int finding = guessFinding(s, walker, n);
        if (finding != NO_FINDING) {
            return tell(finding);
        }
        int set = fittingSet(s, walker, STRIDE, n);
        return set == 0 ? tell(NONE) : Integer.numberOfTrailingZeros(set);
    }

    public int kinds(int s, int walker, int n) {
        int finding = guessFinding(s, walker, n);
        if (finding != NO_FINDING) {
            return tell(finding);
        }
        return fittingSet(s, walker, KIND_OF, n);
    }

    // ---- tides by draws

    public int tides(int n) {
        if (!within(n, 1, 20)) {
            return tell(BEYOND);
        }
        if (shore.hour + n > MOST_COUNT) {
            return tell(STATE);
        }
        for (int i = 0; i < n; i++) {
            shore.passDrawnHour();
        }
        return shore.printCount();
    }

    public long odds(int cell, int n, int what) {
        if (!isCell(cell) || !within(n, 0, 12) || !within(what, 0, 1)) {
            return tell(BEYOND);
        }
        // A cell is spared by the reaches 0 to its number; 5 is all that these can share with 25.
        int spared = cell + 1;
        int shared = spared % 5 == 0 ? 5 : 1;
        return power((what == 0 ? spared : REACHES) / shared, n);
    }

    public int seed(int v) {
        int before = shore.z;
        shore.z = v;
        return before;
    }

    // ---- texts

    public int feed(int bytes, int n) {
        if (!within(n, 1, 4)) {
            return tell(BEYOND);
        }
        if (!tape.hasRoom(n)) {
            return tell(FULL);
        }
        for (int i = n - 1; i >= 0; i--) {
            tape.append(bytes >>> (8 * i));
        }
        return tape.size;
    }

    public int wipe() {
        int before = tape.size;
        tape.size = 0;
        return before;
    }

    public int text() {
        trial.become(shore);
        int answer = tape.readText(trial);
        tape.size = 0;
        if (answer >= 0) {
            shore.become(trial);
        }
        return answer;
    }

    // ---- spots, sheets

    public int hold(int spot, int walker) {
        if (!within(spot, 0, SPOTS - 1) || !shore.isWalkerOrNobody(walker)) {
            return tell(BEYOND);
        }
        shore.spots[spot] = walker;
        return 1;
    }

    public int as(int spot, int kind) {
        if (!within(spot, 0, SPOTS - 1) || !within(kind, 0, KINDS - 1)) {
            return tell(BEYOND);
        }
        int walker = shore.spots[spot];
        if (!shore.isWalker(walker)) {
            return tell(MISSING);
        }
        return isUnder(shore.traits[KIND_OF][walker], kind) ? walker : tell(KIND);
    }

    public int sheet(int s, int bits, int n) {
        if (!Sheets.isSheet(s) || !Sheets.isWidth(bits)) {
            return tell(BEYOND);
        }
        if (n < 0) {
            return tell(SIZE);
        }
        if (n > Sheets.LONGEST) {
            return tell(BEYOND);
        }
        return sheets.lay(s, bits, n);
    }

    public int write(int s, int i, int v) {
        int finding = sheets.findingOf(s);
        if (finding != NO_FINDING) {
            return tell(finding);
        }
        if (!within(i, 0, sheets.sizes[s] - 1)) {
            return tell(BEYOND);
        }
        sheets.put(s, i, v);
        return 1;
    }

    public int copy(int s, int from, int t, int to, int n) {
        if (!Sheets.isSheet(s) || !Sheets.isSheet(t)) {
            return tell(BEYOND);
        }
        if (sheets.isMissing(s) || sheets.isMissing(t)) {
            return tell(MISSING);
        }
        if (sheets.widths[s] != sheets.widths[t]) {
            return tell(KIND);
        }
        if (!sheets.hasPart(s, from, n) || !sheets.hasPart(t, to, n)) {
            return tell(BEYOND);
        }
        System.arraycopy(sheets.numbers[s], from, sheets.numbers[t], to, n);
        return n;
    }

    public int load(int s) {
        int finding = sheets.findingOf(s);
        if (finding != NO_FINDING) {
            return tell(finding);
        }
        int most = Math.min(sheets.sizes[s], shore.walkers);
        for (int i = 0; i < most; i++) {
            int stride = sheets.numbers[s][i];
            if (!within(stride, TRAIT_LEAST[STRIDE], TRAIT_MOST[STRIDE])) {
                return i;
            }
            shore.traits[STRIDE][i] = stride;
        }
        return most;
    }

    public int judge(int s) {
        int finding = sheets.findingOf(s);
        if (finding != NO_FINDING) {
            return tell(finding);
        }
        for (int i = 0; i < sheets.sizes[s]; i++) {
            // Behind the last cell there is none of which a number could be true.
            if (!isCell(i) || sheets.numbers[s][i] != shore.prints[WHOSE][i]) {
                return 1 + i;
            }
        }
        return 0;
    }

    // ---- images

    public int image() {
        kept.become(shore);
        isKept = true;
        return 1;
    }

    public int undo() {
        if (!isKept) {
            return tell(NONE);
        }
        shore.become(kept);
        return shore.hour;
    }

    public int tear() {
        int before = isKept ? 1 : 0;
        isKept = false;
        return before;
    }

    public int count(int what) {
        switch (what) {
            case 0:
                return shore.hour;
            case 1:
                return shore.walkers;
            case 2:
                return shore.printCount();
            case 3:
                return shore.quoted;
            case 4:
                return shore.stepSum();
            case 5:
                return tape.size;
            case 6:
                return shore.z;
            case 7:
                return shore.heldCount();
            default:
                return tell(BEYOND);
        }
    }

    public int status(int which) {
        if (!within(which, -1, FINDINGS - 1)) {
            return tell(BEYOND);
        }
        if (which >= 0) {
            return findings[which];
        }
        int sum = 0;
        for (int i = 0; i < FINDINGS; i++) {
            sum += findings[i];
        }
        return sum;
    }

    // ---- helpers

    /** Every finding goes through here: what seed() or count(6) tell may look like one and is none. */
    private int tell(int finding) {
        int which = BEYOND - finding;
        if (within(which, 0, FINDINGS - 1)) {
            findings[which]++;
        }
        return finding;
    }

    private static boolean within(int v, int least, int most) {
        return v >= least && v <= most;
    }

    private static boolean isCell(int cell) {
        return within(cell, 0, CELLS - 1);
    }

    private static boolean isUnder(int kind, int above) {
        int k = kind;
        for (int level = 0; level < KINDS; level++) {
            if (k == above) {
                return true;
            }
            if (!within(k, 0, KINDS - 1)) {
                return false;
            }
            k = ABOVE[k];
        }
        return false;
    }

    private static long power(long base, int n) {
        long product = 1;
        for (int i = 0; i < n; i++) {
            product *= base;
        }
        return product;
    }

    private int hoursUntilWhose(int cell, int whose) {
        trial.become(shore);
        for (int hours = 0; hours <= LOOK_AHEAD; hours++) {
            if (trial.prints[WHOSE][cell] == whose) {
                return hours;
            }
            trial.passHour(NOBODY_AWAY);
        }
        return tell(NONE);
    }

    /** Leaves on the trial shore what n hours make if one trait of a walker were another now. */
    private void tryTrait(int walker, int what, int v, int n) {
        trial.become(shore);
        trial.traits[what][walker] = v;
        trial.passHours(n, NOBODY_AWAY);
    }

    private int traitForMostWork(int walker, int what, int n) {
        if (!shore.isWalker(walker) || !within(n, 0, 40)) {
            return tell(BEYOND);
        }
        int best = TRAIT_LEAST[what];
        int most = -1;
        for (int v = TRAIT_LEAST[what]; v <= TRAIT_MOST[what]; v++) {
            tryTrait(walker, what, v, n);
            int size = trial.workSize(walker);
            if (size > most) {
                most = size;
                best = v;
            }
        }
        return best;
    }

    private boolean staysWithout(int set, int cell, int n) {
        trial.become(shore);
        trial.passHours(n, set);
        return trial.prints[WHOSE][cell] == shore.prints[WHOSE][cell];
    }

    private int guessFinding(int s, int walker, int n) {
        int finding = sheets.findingOf(s);
        if (finding != NO_FINDING) {
            return finding;
        }
        return shore.isWalker(walker) && within(n, 0, 20) ? NO_FINDING : BEYOND;
    }

    private int fittingSet(int s, int walker, int what, int n) {
        int set = 0;
        for (int v = TRAIT_LEAST[what]; v <= TRAIT_MOST[what]; v++) {
            tryTrait(walker, what, v, n);
            if (trialIsAsTold(s, walker)) {
                set |= 1 << v;
            }
        }
        return set;
    }

    private boolean trialIsAsTold(int s, int walker) {
        int asked = Math.min(sheets.sizes[s], CELLS);
        for (int i = 0; i < asked; i++) {
            int told = sheets.numbers[s][i];
            int own = trial.prints[WHOSE][i] == walker ? 1 : 0;
            if (told != -1 && told != own) {
                return false;
            }
        }
        return true;
    }

    /** All that an image keeps. */
    private static final class Shore {
        final int[][] prints = new int[PRINT_ROWS][CELLS];
        final int[][] traits = new int[TRAITS][MOST_WALKERS];
        final int[] spots = new int[SPOTS];
        int walkers;
        int reach = 8;
        int quoted;
        int hour;
        int z = 1;

        Shore() {
            for (int cell = 0; cell < CELLS; cell++) {
                prints[WHOSE][cell] = NOBODY;
            }
            for (int spot = 0; spot < SPOTS; spot++) {
                spots[spot] = NOBODY;
            }
        }

        void become(Shore other) {
            for (int row = 0; row < PRINT_ROWS; row++) {
                System.arraycopy(other.prints[row], 0, prints[row], 0, CELLS);
            }
            for (int row = 0; row < TRAITS; row++) {
                System.arraycopy(other.traits[row], 0, traits[row], 0, MOST_WALKERS);
            }
            System.arraycopy(other.spots, 0, spots, 0, SPOTS);
            walkers = other.walkers;
            reach = other.reach;
            quoted = other.quoted;
            hour = other.hour;
            z = other.z;
        }

        boolean isWalker(int walker) {
            return within(walker, 0, walkers - 1);
        }

        boolean isWalkerOrNobody(int walker) {
            return within(walker, NOBODY, walkers - 1);
        }

        boolean hasRoom() {
            return walkers < MOST_WALKERS;
        }

        /** The caller has asked hasRoom(). */
        int add(int kind, int cell) {
            int walker = walkers;
            traits[KIND_OF][walker] = kind;
            traits[AT][walker] = cell;
            traits[WAY][walker] = 1;
            traits[STRIDE][walker] = 1;
            traits[WEIGHT][walker] = 4;
            traits[STEPS][walker] = 0;
            walkers++;
            return walker;
        }

        void put(int cell, int walker, int depth, int toward) {
            prints[WHOSE][cell] = walker;
            prints[DEPTH][cell] = depth;
            prints[TOWARD][cell] = toward;
        }

        void clear(int cell) {
            put(cell, NOBODY, 0, 0);
        }

        int strides(int walker) {
            int stride = traits[STRIDE][walker];
            int asChild = stride + hour % 2;
            int asHorse = 1 + stride / 2;
            switch (traits[KIND_OF][walker]) {
                case CHILD:
                    return asChild;
                case RUNNER:
                    return 2 * asChild;
                case CARTER:
                    return 1;
                case HORSE:
                    return asHorse;
                case RIDER:
                    return asHorse + 2;
                default:
                    return stride;
            }
        }

        /** The bound of 9 is that of the print alone: a rider takes his 2 from the whole of a horse. */
        int presses(int walker) {
            int weight = traits[WEIGHT][walker];
            int asHorse = weight + 3 + 1;
            switch (traits[KIND_OF][walker]) {
                case CHILD:
                    return weight / 2;
                case RUNNER:
                    return Math.max(0, weight / 2 - 1);
                case CARTER:
                    return Math.min(MOST_DEPTH, weight + 3);
                case HORSE:
                    return Math.min(MOST_DEPTH, asHorse);
                case RIDER:
                    return Math.min(MOST_DEPTH, traits[STRIDE][walker] > 3 ? asHorse : asHorse - 2);
                case THIEF:
                    return 1;
                default:
                    return weight;
            }
        }

        int looks(int walker) {
            int way = traits[WAY][walker];
            return traits[KIND_OF][walker] == THIEF ? 1 - way : way;
        }

        void passHours(int n, int away) {
            for (int i = 0; i < n; i++) {
                passHour(away);
            }
        }

        /** The walkers of the set away don't go. */
        void passHour(int away) {
            for (int walker = 0; walker < walkers; walker++) {
                if ((away >> walker & 1) == 0) {
                    goOn(walker);
                }
            }
            hour = Math.min(MOST_COUNT, hour + 1);
            if (hour % 6 == 0) {
                comeTide();
            }
        }

        private void goOn(int walker) {
            int way = traits[WAY][walker];
            int aim = traits[AT][walker] + (way == 1 ? strides(walker) : -strides(walker));
            int cell = Math.max(0, Math.min(CELLS - 1, aim));
            if (prints[WHOSE][cell] != NOBODY && prints[WHOSE][cell] != walker) {
                quoted = Math.min(MOST_COUNT, quoted + 1);
            }
            // The print looks the way it went: it is left before the walker turns.
            put(cell, walker, presses(walker), looks(walker));
            traits[AT][walker] = cell;
            if (cell != aim) {
                traits[WAY][walker] = 1 - way;
            }
            traits[STEPS][walker] = Math.min(MOST_COUNT, traits[STEPS][walker] + 1);
        }

        int comeTide() {
            int taken = 0;
            for (int cell = 0; cell < reach && cell < CELLS; cell++) {
                if (prints[DEPTH][cell] >= 8) {
                    prints[DEPTH][cell]--;
                } else if (prints[WHOSE][cell] != NOBODY) {
                    clear(cell);
                    taken++;
                }
            }
            return taken;
        }

        void passDrawnHour() {
            reach = draw() % REACHES;
            int walker = draw() % MOST_WALKERS;
            if (isWalker(walker)) {
                traits[STRIDE][walker] = Math.min(TRAIT_MOST[STRIDE], traits[STRIDE][walker] + 1);
            }
            passHour(NOBODY_AWAY);
        }

        private int draw() {
            z = z * 1103515245 + 12345;
            return z >>> 8;
        }

        int walkersAt(int cell) {
            int set = 0;
            for (int walker = 0; walker < walkers; walker++) {
                if (traits[AT][walker] == cell) {
                    set |= 1 << walker;
                }
            }
            return set;
        }

        int workSet(int walker) {
            int set = 0;
            for (int cell = 0; cell < CELLS; cell++) {
                if (prints[WHOSE][cell] == walker) {
                    set |= 1 << cell;
                }
            }
            return set;
        }

        int workSize(int walker) {
            return Integer.bitCount(workSet(walker));
        }

        int longestLine(int walker) {
            int longest = 0;
            int run = 0;
            for (int cell = 0; cell < CELLS; cell++) {
                run = prints[WHOSE][cell] == walker ? run + 1 : 0;
                longest = Math.max(longest, run);
            }
            return longest;
        }

        int printSet() {
            return ~workSet(NOBODY) & ((1 << CELLS) - 1);
        }

        int printCount() {
            return Integer.bitCount(printSet());
        }

        int depthSum() {
            int sum = 0;
            for (int cell = 0; cell < CELLS; cell++) {
                sum += prints[DEPTH][cell];
            }
            return sum;
        }

        int greatestAuthor() {
            int best = NOBODY;
            int most = -1;
            for (int walker = 0; walker < walkers; walker++) {
                int size = workSize(walker);
                if (size > most) {
                    most = size;
                    best = walker;
                }
            }
            return best;
        }

        int stepSum() {
            int sum = 0;
            for (int walker = 0; walker < walkers; walker++) {
                sum += traits[STEPS][walker];
            }
            return sum;
        }

        int heldCount() {
            int held = 0;
            for (int spot = 0; spot < SPOTS; spot++) {
                if (spots[spot] != NOBODY) {
                    held++;
                }
            }
            return held;
        }
    }

    /** Four rows of numbers; a row without a width is missing. */
    private static final class Sheets {
        private static final int SHEETS = 4;
        static final int LONGEST = 40;

        final int[][] numbers = new int[SHEETS][LONGEST];
        final int[] widths = new int[SHEETS];
        final int[] sizes = new int[SHEETS];

        static boolean isSheet(int s) {
            return within(s, 0, SHEETS - 1);
        }

        static boolean isWidth(int bits) {
            return bits == 0 || bits == 8 || bits == 16 || bits == 32;
        }

        boolean isMissing(int s) {
            return widths[s] == 0;
        }

        int findingOf(int s) {
            if (!isSheet(s)) {
                return BEYOND;
            }
            return isMissing(s) ? MISSING : NO_FINDING;
        }

        int lay(int s, int bits, int n) {
            widths[s] = bits;
            sizes[s] = bits == 0 ? 0 : n;
            for (int i = 0; i < LONGEST; i++) {
                numbers[s][i] = 0;
            }
            return sizes[s];
        }

        void put(int s, int i, int v) {
            int spare = 32 - widths[s];
            numbers[s][i] = v << spare >> spare;
        }

        /** The sum of from and n could wrap around, their difference from the size cannot. */
        boolean hasPart(int s, int from, int n) {
            return n >= 0 && n <= sizes[s] && from >= 0 && from <= sizes[s] - n;
        }
    }

    /** The bytes of a text, and its reader, which stands on one token at a time. */
    private static final class Tape {
        private static final int LONGEST = 120;
        private static final int MOST_NUMBER = 999;
        private static final int END = 0;
        private static final int WORD = 1;
        private static final int NUMBER = 2;
        private static final int SIGN = 3;
        private static final int OTHER = 4;

        private final int[] bytes = new int[LONGEST];
        int size;
        private int token;
        private int begin;
        private int end;
        private int value;

        boolean hasRoom(int n) {
            return n <= LONGEST - size;
        }

        /** The caller has asked hasRoom(). */
        void append(int b) {
            bytes[size] = b & 255;
            size++;
        }

        /** How many items there are, and the shore as they tell; or -1 less the fault. */
        int readText(Shore shore) {
            end = 0;
            step();
            // An item takes a byte at least, so there are fewer items than this.
            for (int items = 1; items <= LONGEST; items++) {
                if (!readItem(shore)) {
                    return -1 - begin;
                }
                if (token == END) {
                    return items;
                }
                if (token != SIGN) {
                    return -1 - begin;
                }
                step();
            }
            return -1 - begin;
        }

        /** If it can't be read, the reader stands on the token that is the fault; so do the others. */
        private boolean readItem(Shore shore) {
            int kind = kindOfWord();
            if (kind >= 0) {
                return readWalker(shore, kind);
            }
            if (isWord("reach")) {
                return readReach(shore);
            }
            return isWord("print") && readPrint(shore);
        }

        private boolean readWalker(Shore shore, int kind) {
            if (!shore.hasRoom()) {
                return false;
            }
            int walker = shore.add(kind, 0);
            step();
            if (!readTrait(shore, walker, "at", AT)) {
                return false;
            }
            if (isWord("out")) {
                shore.traits[WAY][walker] = 0;
                step();
            }
            return readTrait(shore, walker, "stride", STRIDE) && readTrait(shore, walker, "weight", WEIGHT);
        }

        /** A trait that isn't told is well too. */
        private boolean readTrait(Shore shore, int walker, String word, int what) {
            if (!isWord(word)) {
                return true;
            }
            step();
            if (!isNumber(TRAIT_LEAST[what], TRAIT_MOST[what])) {
                return false;
            }
            shore.traits[what][walker] = value;
            step();
            return true;
        }

        private boolean readReach(Shore shore) {
            step();
            if (!isNumber(0, MOST_REACH)) {
                return false;
            }
            shore.reach = value;
            step();
            return true;
        }

        private boolean readPrint(Shore shore) {
            step();
            if (!isNumber(0, CELLS - 1)) {
                return false;
            }
            int cell = value;
            step();
            if (!isNumber(0, shore.walkers - 1)) {
                return false;
            }
            int walker = value;
            step();
            if (!isNumber(0, MOST_DEPTH)) {
                return false;
            }
            int depth = value;
            step();
            boolean out = isWord("out");
            if (out) {
                step();
            }
            shore.put(cell, walker, depth, out ? 0 : 1);
            return true;
        }

        private boolean isNumber(int least, int most) {
            return token == NUMBER && within(value, least, most);
        }

        private boolean isWord(String word) {
            if (token != WORD || end - begin != word.length()) {
                return false;
            }
            for (int i = 0; i < word.length(); i++) {
                if (bytes[begin + i] != word.charAt(i)) {
                    return false;
                }
            }
            return true;
        }

        private int kindOfWord() {
            for (int kind = 0; kind < KINDS; kind++) {
                if (isWord(wordOfKind(kind))) {
                    return kind;
                }
            }
            return -1;
        }

        private static String wordOfKind(int kind) {
            switch (kind) {
                case CHILD:
                    return "child";
                case CARTER:
                    return "carter";
                case HORSE:
                    return "horse";
                case RIDER:
                    return "rider";
                case THIEF:
                    return "thief";
                case RUNNER:
                    return "runner";
                default:
                    return "walker";
            }
        }

        /** To the next token, or to the end, which begins behind the last byte. */
        private void step() {
            begin = end;
            while (begin < size && bytes[begin] == ' ') {
                begin++;
            }
            end = begin;
            value = 0;
            token = begin < size ? tokenOfByte(bytes[begin]) : END;
            boolean more = token != END;
            while (more && end < size) {
                if (token == NUMBER) {
                    // Once too great it stays so: a long row of digits must not wrap around.
                    value = Math.min(MOST_NUMBER + 1, value * 10 + bytes[end] - '0');
                }
                end++;
                boolean growing = token == WORD || token == NUMBER;
                more = growing && end < size && tokenOfByte(bytes[end]) == token;
            }
        }

        private static int tokenOfByte(int b) {
            if (b >= 'a' && b <= 'z') {
                return WORD;
            }
            if (b >= '0' && b <= '9') {
                return NUMBER;
            }
            return b == ';' ? SIGN : OTHER;
        }
    }
}
