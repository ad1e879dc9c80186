/** The plots of a town's burial ground, and the families that lease them. */
public final class PlotLeases {
    public static final int NONE = -1;

    private static final int ROWS = 4;
    private static final int COLUMNS = 6;
    private static final int PLOTS = 24;
    private static final int FAMILIES = 10;
    private static final int MOST_LAYERS = 3;
    private static final int FIRST_DEPTH = 2;
    private static final int MOST_WAITING = 12;
    private static final int MOST_REMEMBERED = 14;
    private static final int SLOTS = 2;
    private static final int TEXT_ROOM = 120;
    private static final int MOST_YEARS = 99;
    private static final int MOST_YEARS_TO_COME = 200;
    private static final int MOST_COMMANDS = 3;
    private static final int MOST_TURNS = 60;
    private static final int GROUP = 10000;

    // the settings, by their numbers in the document
    private static final int SETTINGS = 5;
    private static final int LEASE_YEARS = 0;
    private static final int REST_YEARS = 1;
    private static final int YEAR_FEE = 2;
    private static final int BURIAL_FEE = 3;
    private static final int CLEARING_FEE = 4;
    private static final int[] FIRST_SETTINGS = {30, 20, 2, 10, 5};
    private static final int[] LOWEST_SETTINGS = {1, 1, 0, 0, 0};
    private static final int[] HIGHEST_SETTINGS = {99, 60, 99, 99, 99};

    // the states of a plot, by their numbers in the document
    private static final int STATE_FREE = 0;
    private static final int STATE_LET = 1;
    private static final int STATE_DISPUTED = 2;
    private static final int STATE_RESTING = 3;
    private static final int STATE_CLEARABLE = 4;

    private final Ground ground = new Ground();
    private final Ground trial = new Ground();
    private final History history = new History();
    private final Slots slots = new Slots();
    private final GroundText text = new GroundText();
    private final StringBuilder registerLine = new StringBuilder();

    public PlotLeases() {
    }

    // ---- text

    public int append(int c) throws IllegalArgumentException, IllegalStateException {
        if (c < 0 || c > 255) {
            throw new IllegalArgumentException("no such character");
        }
        if (text.isFull()) {
            throw new IllegalStateException("the text is full");
        }
        return text.put(c);
    }

    public int clearText() {
        return text.wipe();
    }

    public int errorPosition() {
        return text.firstError();
    }

    public int load() throws IllegalStateException {
        if (text.firstError() != NONE) {
            throw new IllegalStateException("the text is not a ground");
        }
        ground.begin();
        history.forgetAll();
        slots.forgetAll();
        return performText();
    }

    // ---- what there is

    public int about(int what) throws IllegalArgumentException {
        switch (what) {
            case 0:
                return ground.year;
            case 1:
                return ground.countFree();
            case 2:
                return ground.countLapsed();
            case 3:
                return ground.countClearable();
            case 4:
                return ground.countDisputed();
            case 5:
                return ground.waiters;
            case 6:
                return ground.countBurials();
            case 7:
                return ground.ossuary;
            case 8:
                return ground.paidByFamilies();
            case 9:
                return ground.paidByTown;
            default:
                throw new IllegalArgumentException("no such number");
        }
    }

    public int plot(int p, int what) throws IndexOutOfBoundsException, IllegalArgumentException {
        if (!isPlot(p)) {
            throw new IndexOutOfBoundsException("no such plot");
        }
        switch (what) {
            case 0:
                return ground.holders[p];
            case 1:
                return ground.lastYears[p];
            case 2:
                return ground.burialCounts[p];
            case 3:
                return ground.latestBurial(p);
            case 4:
                return ground.claimants[p];
            case 5:
                return ground.stateOf(p);
            default:
                throw new IllegalArgumentException("no such number");
        }
    }

    public int burial(int p, int k) throws IndexOutOfBoundsException, IllegalArgumentException {
        if (!isPlot(p)) {
            throw new IndexOutOfBoundsException("no such plot");
        }
        if (k < 0) {
            throw new IllegalArgumentException("a burial below 0");
        }
        return ground.yearOfBurial(p, k);
    }

    public int family(int f, int what) throws IndexOutOfBoundsException, IllegalArgumentException {
        if (!isFamily(f)) {
            throw new IndexOutOfBoundsException("no such family");
        }
        switch (what) {
            case 0:
                return ground.plotsOf(f);
            case 1:
                return ground.burialsOf(f);
            case 2:
                return ground.timesWaiting(f);
            case 3:
                return ground.waitersAheadOf(f);
            case 4:
                return ground.claimsOf(f);
            case 5:
                return ground.paidByFamily[f];
            default:
                throw new IllegalArgumentException("no such number");
        }
    }

    public int waiting(int k) throws IllegalArgumentException {
        if (k < 0) {
            throw new IllegalArgumentException("a place below 0");
        }
        return ground.waiterAt(k);
    }

    public int line(int p, int i) throws IndexOutOfBoundsException, IllegalArgumentException {
        if (!isPlot(p)) {
            throw new IndexOutOfBoundsException("no such plot");
        }
        if (i < 0) {
            throw new IllegalArgumentException("an index below 0");
        }
        registerLine.setLength(0);
        ground.writeLine(p, registerLine);
        return i < registerLine.length() ? registerLine.charAt(i) : NONE;
    }

    public int depth(int row) throws IndexOutOfBoundsException {
        if (!isRow(row)) {
            throw new IndexOutOfBoundsException("no such row");
        }
        return ground.depths[row];
    }

    public int setting(int what) throws IllegalArgumentException {
        if (!isSetting(what)) {
            throw new IllegalArgumentException("no such setting");
        }
        return ground.settings[what];
    }

    // ---- actions

    public int ask(int f) throws IndexOutOfBoundsException, IllegalStateException {
        if (!isFamily(f)) {
            throw new IndexOutOfBoundsException("no such family");
        }
        if (!ground.canTakeAsker()) {
            throw new IllegalStateException("no plot is free, and no more can wait");
        }
        history.remember(ground);
        return ground.giveOrQueue(f);
    }

    public int let(int f, int p) throws IndexOutOfBoundsException, IllegalStateException {
        if (!isFamily(f) || !isPlot(p)) {
            throw new IndexOutOfBoundsException("no such family or plot");
        }
        if (!ground.isFree(p)) {
            throw new IllegalStateException("the plot is not free");
        }
        history.remember(ground);
        ground.give(f, p);
        return ground.lastYears[p];
    }

    public int bury(int p) throws IndexOutOfBoundsException, IllegalStateException {
        if (!isPlot(p)) {
            throw new IndexOutOfBoundsException("no such plot");
        }
        if (!ground.canTakeBurial(p)) {
            throw new IllegalStateException("nobody can be buried there");
        }
        history.remember(ground);
        ground.addBurial(p);
        return ground.lastYears[p];
    }

    public int renew(int p, int years)
            throws IndexOutOfBoundsException, IllegalArgumentException, IllegalStateException {
        if (!isPlot(p)) {
            throw new IndexOutOfBoundsException("no such plot");
        }
        if (!isYears(years)) {
            throw new IllegalArgumentException("years out of range");
        }
        if (ground.isFree(p) || ground.isDisputed(p)) {
            throw new IllegalStateException("the plot is free, or in dispute");
        }
        history.remember(ground);
        ground.prolong(p, years);
        return ground.lastYears[p];
    }

    public int claim(int p, int f) throws IndexOutOfBoundsException, IllegalStateException {
        if (!isPlot(p) || !isFamily(f)) {
            throw new IndexOutOfBoundsException("no such plot or family");
        }
        if (!ground.canBeClaimed(p, f)) {
            throw new IllegalStateException("the family cannot claim the plot");
        }
        history.remember(ground);
        ground.openDispute(p, f);
        return ground.countDisputed();
    }

    public int settle(int p, boolean wins) throws IndexOutOfBoundsException, IllegalStateException {
        if (!isPlot(p)) {
            throw new IndexOutOfBoundsException("no such plot");
        }
        if (!ground.isDisputed(p)) {
            throw new IllegalStateException("the plot is not in dispute");
        }
        history.remember(ground);
        ground.closeDispute(p, wins);
        return ground.holders[p];
    }

    public int clear(int p) throws IndexOutOfBoundsException, IllegalStateException {
        if (!isPlot(p)) {
            throw new IndexOutOfBoundsException("no such plot");
        }
        if (!ground.isClearable(p)) {
            throw new IllegalStateException("the plot cannot be cleared");
        }
        history.remember(ground);
        return ground.clearOut(p);
    }

    public int dig(int row, int depth) throws IndexOutOfBoundsException, IllegalArgumentException {
        if (!isRow(row)) {
            throw new IndexOutOfBoundsException("no such row");
        }
        if (depth < 1 || depth > MOST_LAYERS) {
            throw new IllegalArgumentException("depth out of range");
        }
        history.remember(ground);
        int previous = ground.depths[row];
        ground.depths[row] = depth;
        return previous;
    }

    public int run(int n) throws IllegalArgumentException {
        if (!isYears(n)) {
            throw new IllegalArgumentException("years out of range");
        }
        history.remember(ground);
        return ground.passYears(n);
    }

    public int set(int what, int v) throws IllegalArgumentException {
        if (!isSetting(what) || v < LOWEST_SETTINGS[what] || v > HIGHEST_SETTINGS[what]) {
            throw new IllegalArgumentException("no such setting, or a value out of its range");
        }
        history.remember(ground);
        int previous = ground.settings[what];
        ground.settings[what] = v;
        return previous;
    }

    public int undo() throws IllegalStateException {
        if (history.count == 0) {
            throw new IllegalStateException("no state is remembered");
        }
        history.takeBack(ground);
        return history.count;
    }

    // ---- what would be

    public int plotFor(int f) throws IndexOutOfBoundsException {
        if (!isFamily(f)) {
            throw new IndexOutOfBoundsException("no such family");
        }
        return ground.nearestFree(f);
    }

    public int clearFrom(int p) throws IndexOutOfBoundsException {
        if (!isPlot(p)) {
            throw new IndexOutOfBoundsException("no such plot");
        }
        return ground.isFree(p) ? NONE : ground.endOfLeaseAndRest(p);
    }

    public int coming(int n, int what) throws IllegalArgumentException {
        if (n < 1 || n > MOST_YEARS_TO_COME || what < 0 || what > 3) {
            throw new IllegalArgumentException("years out of range, or no such number");
        }
        trial.copyFrom(ground);
        trial.passYears(n);
        switch (what) {
            case 0:
                return trial.countFree();
            case 1:
                return trial.countLapsed();
            case 2:
                return trial.countClearable();
            default:
                return trial.waiters;
        }
    }

    public int whenFor(int f) throws IndexOutOfBoundsException {
        if (!isFamily(f)) {
            throw new IndexOutOfBoundsException("no such family");
        }
        trial.copyFrom(ground);
        if (trial.giveOrQueue(f) != NONE) {
            return trial.year;
        }
        int places = trial.timesWaiting(f);
        for (int ahead = 0; ahead <= MOST_YEARS_TO_COME; ahead++) {
            if (ahead > 0) {
                trial.passYears(1);
            }
            trial.clearAll();
            trial.serveWaiters();
            if (trial.timesWaiting(f) < places) {
                return trial.year;
            }
        }
        return NONE;
    }

    // ---- scripts, simulations

    public int runScript(int n, long script) throws IllegalArgumentException {
        if (n < 1 || n > MOST_COMMANDS || script < 0 || groupsBehind(script, n) != 0) {
            throw new IllegalArgumentException("a count or a script out of range");
        }
        trial.copyFrom(ground);
        for (int i = 0; i < n; i++) {
            int group = (int) (groupsBehind(script, n - 1 - i) % GROUP);
            if (!Orders.performGroup(trial, group)) {
                return i;
            }
        }
        return NONE;
    }

    public int simulate(long seed, int m) throws IllegalArgumentException {
        if (m < 1 || m > MOST_TURNS) {
            throw new IllegalArgumentException("turns out of range");
        }
        trial.copyFrom(ground);
        long x = seed;
        for (int i = 0; i < m; i++) {
            x = x * 6364136223846793005L + 1442695040888963407L;
            Orders.performTurn(trial, (int) (x >>> 33));
        }
        return 100 * trial.countBurials() + trial.ossuary;
    }

    // ---- save slots

    public int save(int slot) throws IndexOutOfBoundsException {
        if (!isSlot(slot)) {
            throw new IndexOutOfBoundsException("no such save slot");
        }
        slots.keep(slot, ground);
        return ground.year;
    }

    public int restore(int slot) throws IndexOutOfBoundsException, IllegalStateException {
        if (!isSlot(slot)) {
            throw new IndexOutOfBoundsException("no such save slot");
        }
        if (!slots.filled[slot]) {
            throw new IllegalStateException("nothing has been saved in the slot");
        }
        ground.copyFrom(slots.states[slot]);
        history.forgetAll();
        return ground.year;
    }

    /** Does the commands of a text without errors; how many are left out. */
    private int performText() {
        int leftOut = 0;
        text.rewind();
        for (int i = 0; i < TEXT_ROOM && text.readCommand(); i++) {
            if (!Orders.performWord(ground, text.word, text.first, text.second)) {
                leftOut++;
            }
            if (!text.readSign(';')) {
                break;
            }
        }
        return leftOut;
    }

    // ---- ranges

    private static boolean isPlot(int p) {
        return p >= 0 && p < PLOTS;
    }

    private static boolean isFamily(int f) {
        return f >= 0 && f < FAMILIES;
    }

    private static boolean isRow(int row) {
        return row >= 0 && row < ROWS;
    }

    private static boolean isSetting(int what) {
        return what >= 0 && what < SETTINGS;
    }

    private static boolean isYears(int n) {
        return n >= 1 && n <= MOST_YEARS;
    }

    private static boolean isSlot(int slot) {
        return slot >= 0 && slot < SLOTS;
    }

    /** The script without its lowest groups. */
    private static long groupsBehind(long script, int groups) {
        long rest = script;
        for (int i = 0; i < groups; i++) {
            rest = rest / GROUP;
        }
        return rest;
    }

    /**
     * One state of the whole ground, and the rules by which it changes. Its methods expect plots,
     * families and rows that exist; who calls them has looked.
     */
    private static final class Ground {
        private int year;
        private int waiters;
        private int ossuary;
        private int paidByTown;
        private final int[] settings = new int[SETTINGS];
        private final int[] depths = new int[ROWS];
        private final int[] holders = new int[PLOTS];
        private final int[] lastYears = new int[PLOTS];
        private final int[] claimants = new int[PLOTS];
        private final int[] burialCounts = new int[PLOTS];
        private final int[] burialYears = new int[PLOTS * MOST_LAYERS];
        // one place more than may wait: whenFor asks though 12 wait
        private final int[] queue = new int[MOST_WAITING + 1];
        private final int[] paidByFamily = new int[FAMILIES];

        Ground() {
            begin();
        }

        void begin() {
            year = 0;
            waiters = 0;
            ossuary = 0;
            paidByTown = 0;
            for (int i = 0; i < SETTINGS; i++) {
                settings[i] = FIRST_SETTINGS[i];
            }
            for (int row = 0; row < ROWS; row++) {
                depths[row] = FIRST_DEPTH;
            }
            for (int f = 0; f < FAMILIES; f++) {
                paidByFamily[f] = 0;
            }
            for (int p = 0; p < PLOTS; p++) {
                vacate(p);
            }
        }

        void copyFrom(Ground other) {
            year = other.year;
            waiters = other.waiters;
            ossuary = other.ossuary;
            paidByTown = other.paidByTown;
            System.arraycopy(other.settings, 0, settings, 0, SETTINGS);
            System.arraycopy(other.depths, 0, depths, 0, ROWS);
            System.arraycopy(other.holders, 0, holders, 0, PLOTS);
            System.arraycopy(other.lastYears, 0, lastYears, 0, PLOTS);
            System.arraycopy(other.claimants, 0, claimants, 0, PLOTS);
            System.arraycopy(other.burialCounts, 0, burialCounts, 0, PLOTS);
            System.arraycopy(other.burialYears, 0, burialYears, 0, PLOTS * MOST_LAYERS);
            System.arraycopy(other.queue, 0, queue, 0, MOST_WAITING + 1);
            System.arraycopy(other.paidByFamily, 0, paidByFamily, 0, FAMILIES);
        }

        // ---- what holds of a plot

        boolean isFree(int p) {
            return holders[p] == NONE;
        }

        boolean isDisputed(int p) {
            return claimants[p] != NONE;
        }

        boolean hasLapsed(int p) {
            return !isFree(p) && year > lastYears[p];
        }

        boolean isClearable(int p) {
            return stateOf(p) == STATE_CLEARABLE;
        }

        boolean canTakeBurial(int p) {
            return !isFree(p) && !hasLapsed(p) && !isDisputed(p)
                    && burialCounts[p] < depths[p / COLUMNS];
        }

        boolean canBeClaimed(int p, int f) {
            return !isFree(p) && holders[p] != f && !isDisputed(p);
        }

        int stateOf(int p) {
            if (isFree(p)) {
                return STATE_FREE;
            }
            if (!hasLapsed(p)) {
                return STATE_LET;
            }
            if (isDisputed(p)) {
                return STATE_DISPUTED;
            }
            return year < endOfRest(p) ? STATE_RESTING : STATE_CLEARABLE;
        }

        /** The first year in which the plot does not rest. */
        int endOfRest(int p) {
            int k = burialCounts[p] - 1;
            return k < 0 ? 0 : yearOfBurial(p, k) + settings[REST_YEARS];
        }

        int endOfLeaseAndRest(int p) {
            return Math.max(year, Math.max(lastYears[p] + 1, endOfRest(p)));
        }

        int latestBurial(int p) {
            return yearOfBurial(p, burialCounts[p] - 1);
        }

        int yearOfBurial(int p, int k) {
            if (k < 0 || k >= burialCounts[p] || k >= MOST_LAYERS) {
                return NONE;
            }
            return burialYears[p * MOST_LAYERS + k];
        }

        void writeLine(int p, StringBuilder out) {
            out.append('p').append(p);
            if (isFree(p)) {
                out.append(" free");
                return;
            }
            out.append(" f").append(holders[p]);
            out.append(' ').append(burialCounts[p]).append('/').append(depths[p / COLUMNS]);
            out.append(' ').append(lastYears[p]);
            if (hasLapsed(p)) {
                out.append('!');
            }
            if (isDisputed(p)) {
                out.append('?').append(claimants[p]);
            }
        }

        // ---- what holds of all plots, and of families

        int countFree() {
            return plotsOf(NONE);
        }

        int countLapsed() {
            int count = 0;
            for (int p = 0; p < PLOTS; p++) {
                if (hasLapsed(p)) {
                    count++;
                }
            }
            return count;
        }

        int countClearable() {
            int count = 0;
            for (int p = 0; p < PLOTS; p++) {
                if (isClearable(p)) {
                    count++;
                }
            }
            return count;
        }

        int countDisputed() {
            return PLOTS - claimsOf(NONE);
        }

        int countBurials() {
            int count = 0;
            for (int p = 0; p < PLOTS; p++) {
                count += burialCounts[p];
            }
            return count;
        }

        int paidByFamilies() {
            int sum = 0;
            for (int f = 0; f < FAMILIES; f++) {
                sum += paidByFamily[f];
            }
            return sum;
        }

        int plotsOf(int f) {
            return countIn(holders, PLOTS, f);
        }

        int claimsOf(int f) {
            return countIn(claimants, PLOTS, f);
        }

        int timesWaiting(int f) {
            return countIn(queue, waiters, f);
        }

        int burialsOf(int f) {
            int count = 0;
            for (int p = 0; p < PLOTS; p++) {
                if (holders[p] == f) {
                    count += burialCounts[p];
                }
            }
            return count;
        }

        int waitersAheadOf(int f) {
            for (int k = 0; k < waiters && k < queue.length; k++) {
                if (queue[k] == f) {
                    return k;
                }
            }
            return NONE;
        }

        int waiterAt(int k) {
            return k >= 0 && k < waiters && k < queue.length ? queue[k] : NONE;
        }

        private static int countIn(int[] row, int length, int value) {
            int count = 0;
            for (int i = 0; i < length && i < row.length; i++) {
                if (row[i] == value) {
                    count++;
                }
            }
            return count;
        }

        // ---- who gets which plot

        int nearestFree(int f) {
            int nearest = NONE;
            int leastWay = 0;
            for (int p = 0; p < PLOTS; p++) {
                if (isFree(p)) {
                    int way = wayToPlotsOf(f, p);
                    if (nearest == NONE || way < leastWay) {
                        nearest = p;
                        leastWay = way;
                    }
                }
            }
            return nearest;
        }

        /** The same way from everywhere for a family without plots: so it gets the lowest one. */
        int wayToPlotsOf(int f, int p) {
            int least = ROWS + COLUMNS;
            for (int q = 0; q < PLOTS; q++) {
                if (holders[q] == f) {
                    int way = Math.abs(p / COLUMNS - q / COLUMNS) + Math.abs(p % COLUMNS - q % COLUMNS);
                    least = Math.min(least, way);
                }
            }
            return least;
        }

        boolean canTakeAsker() {
            return waiters < MOST_WAITING || countFree() > 0;
        }

        /** The plot that the family gets; NONE if it waits. */
        int giveOrQueue(int f) {
            int p = nearestFree(f);
            if (p != NONE) {
                give(f, p);
            } else if (waiters < queue.length) {
                queue[waiters] = f;
                waiters++;
            }
            return p;
        }

        void give(int f, int p) {
            holders[p] = f;
            lastYears[p] = year - 1;
            prolong(p, settings[LEASE_YEARS]);
        }

        /** How many of those who wait get a plot. */
        int serveWaiters() {
            int served = 0;
            for (int place = 0; place < queue.length; place++) {
                int p = waiters > 0 ? nearestFree(queue[0]) : NONE;
                if (p == NONE) {
                    break;
                }
                give(queue[0], p);
                dropFirstWaiter();
                served++;
            }
            return served;
        }

        private void dropFirstWaiter() {
            waiters--;
            for (int k = 0; k < waiters && k + 1 < queue.length; k++) {
                queue[k] = queue[k + 1];
            }
        }

        // ---- what is done with a plot

        void vacate(int p) {
            holders[p] = NONE;
            lastYears[p] = NONE;
            claimants[p] = NONE;
            burialCounts[p] = 0;
        }

        void prolong(int p, int years) {
            lastYears[p] += years;
            charge(p, years * settings[YEAR_FEE]);
        }

        private void charge(int p, int sum) {
            int f = holders[p];
            if (f >= 0 && f < FAMILIES) {
                paidByFamily[f] += sum;
            }
        }

        void addBurial(int p) {
            int k = burialCounts[p];
            if (k >= MOST_LAYERS) {
                return;
            }
            burialYears[p * MOST_LAYERS + k] = year;
            burialCounts[p] = k + 1;
            charge(p, settings[BURIAL_FEE]);
            prolong(p, Math.max(0, endOfRest(p) - lastYears[p]));
        }

        void openDispute(int p, int f) {
            claimants[p] = f;
        }

        void closeDispute(int p, boolean wins) {
            if (wins) {
                holders[p] = claimants[p];
            }
            claimants[p] = NONE;
        }

        /** How many burials come to the ossuary. */
        int clearOut(int p) {
            int moved = burialCounts[p];
            ossuary += moved;
            paidByTown += settings[CLEARING_FEE];
            vacate(p);
            return moved;
        }

        void clearAll() {
            for (int p = 0; p < PLOTS; p++) {
                if (isClearable(p)) {
                    clearOut(p);
                }
            }
        }

        // ---- years

        /** How many of those who wait get a plot in these years. */
        int passYears(int n) {
            int served = 0;
            for (int i = 0; i < n; i++) {
                year++;
                endUnusedLeases();
                served += serveWaiters();
            }
            return served;
        }

        private void endUnusedLeases() {
            for (int p = 0; p < PLOTS; p++) {
                if (hasLapsed(p) && burialCounts[p] == 0 && !isDisputed(p)) {
                    vacate(p);
                }
            }
        }
    }

    /** What texts, scripts and simulations order: each is done, or left out if it cannot be done. */
    private static final class Orders {
        private static final int FAMILY_STEP = 256;
        private static final int PLOT_STEP = 8;

        static boolean tryAsk(Ground ground, int f) {
            if (!ground.canTakeAsker()) {
                return false;
            }
            ground.giveOrQueue(f);
            return true;
        }

        static boolean tryLet(Ground ground, int f, int p) {
            if (!isPlot(p) || !ground.isFree(p)) {
                return false;
            }
            ground.give(f, p);
            return true;
        }

        static boolean tryBury(Ground ground, int p) {
            if (!isPlot(p) || !ground.canTakeBurial(p)) {
                return false;
            }
            ground.addBurial(p);
            return true;
        }

        static boolean tryClear(Ground ground, int p) {
            if (!isPlot(p) || !ground.isClearable(p)) {
                return false;
            }
            ground.clearOut(p);
            return true;
        }

        static boolean tryClaim(Ground ground, int p, int f) {
            if (!isPlot(p) || !ground.canBeClaimed(p, f)) {
                return false;
            }
            ground.openDispute(p, f);
            return true;
        }

        static boolean trySettle(Ground ground, int p, boolean wins) {
            if (!isPlot(p) || !ground.isDisputed(p)) {
                return false;
            }
            ground.closeDispute(p, wins);
            return true;
        }

        /** Does a command of a script, a group of four digits; false if it fails. */
        static boolean performGroup(Ground ground, int group) {
            int digit = group / 100 % 10;
            int number = group % 100;
            switch (group / 1000) {
                case 1:
                    return number == 0 && tryAsk(ground, digit);
                case 2:
                    return tryLet(ground, digit, number);
                case 3:
                    return digit == 0 && tryBury(ground, number);
                case 4:
                    return digit == 0 && tryClear(ground, number);
                case 5:
                    return tryClaim(ground, number, digit);
                case 6:
                    if (digit != 0 || !isYears(number)) {
                        return false;
                    }
                    ground.passYears(number);
                    return true;
                case 7:
                    return isPlot(number) && ground.holders[number] == digit;
                case 8:
                    return isPlot(number) && ground.stateOf(number) == digit;
                case 9:
                    return digit == 0 && ground.waiters <= number;
                default:
                    return false;
            }
        }

        /** Does a turn of a simulation; r is 0 or more. */
        static boolean performTurn(Ground ground, int r) {
            int p = r / PLOT_STEP % PLOTS;
            int f = r / FAMILY_STEP % FAMILIES;
            switch (r % 8) {
                case 0:
                case 1:
                    return tryAsk(ground, f);
                case 2:
                case 3:
                    return tryBury(ground, p);
                case 4:
                    return tryClear(ground, p);
                case 5:
                    return tryClaim(ground, p, f);
                case 6:
                    return trySettle(ground, p, r / FAMILY_STEP % 2 == 0);
                default:
                    ground.passYears(1 + r / PLOT_STEP % 30);
                    return true;
            }
        }

        /** Does a command of a text, whose numbers are in their ranges. */
        static boolean performWord(Ground ground, Word word, int first, int second) {
            if (word == Word.ASK) {
                return tryAsk(ground, first);
            }
            if (word == Word.LET) {
                return tryLet(ground, first, second);
            }
            if (word == Word.BURY) {
                return tryBury(ground, first);
            }
            if (word == Word.RUN) {
                ground.passYears(first);
            } else if (isRow(first)) {
                ground.depths[first] = second;
            }
            return true;
        }
    }

    /** The states before the last actions: a ring, so that the oldest one is forgotten. */
    private static final class History {
        private final Ground[] states = new Ground[MOST_REMEMBERED];
        private int oldest;
        private int count;

        History() {
            for (int i = 0; i < MOST_REMEMBERED; i++) {
                states[i] = new Ground();
            }
        }

        void remember(Ground ground) {
            states[(oldest + count) % MOST_REMEMBERED].copyFrom(ground);
            if (count < MOST_REMEMBERED) {
                count++;
            } else {
                oldest = (oldest + 1) % MOST_REMEMBERED;
            }
        }

        void takeBack(Ground ground) {
            if (count > 0) {
                count--;
                ground.copyFrom(states[(oldest + count) % MOST_REMEMBERED]);
            }
        }

        void forgetAll() {
            oldest = 0;
            count = 0;
        }
    }

    private static final class Slots {
        private final Ground[] states = new Ground[SLOTS];
        private final boolean[] filled = new boolean[SLOTS];

        Slots() {
            for (int i = 0; i < SLOTS; i++) {
                states[i] = new Ground();
            }
        }

        void keep(int slot, Ground ground) {
            states[slot].copyFrom(ground);
            filled[slot] = true;
        }

        void forgetAll() {
            for (int i = 0; i < SLOTS; i++) {
                filled[i] = false;
            }
        }
    }

    /** The words of commands, and the kinds of the numbers behind them. */
    private enum Word {
        ASK("ask", 0, NONE),
        LET("let", 0, 1),
        BURY("bury", 1, NONE),
        RUN("run", 2, NONE),
        DIG("dig", 3, 4);

        private final String letters;
        private final int firstKind;
        private final int secondKind;

        Word(String letters, int firstKind, int secondKind) {
            this.letters = letters;
            this.firstKind = firstKind;
            this.secondKind = secondKind;
        }
    }

    /** The text buffer, and a reader of the commands in it. */
    private static final class GroundText {
        private static final Word[] WORDS = Word.values();
        // by the kind of a number: family, plot, years, row, depth
        private static final int[] LOWEST = {0, 0, 1, 0, 1};
        private static final int[] HIGHEST = {9, 23, 99, 3, 3};

        private final int[] characters = new int[TEXT_ROOM];
        private int length;
        private int position;
        private Word word;
        private int first;
        private int second;

        boolean isFull() {
            return length >= TEXT_ROOM;
        }

        int put(int c) {
            if (length < TEXT_ROOM) {
                characters[length] = c;
                length++;
            }
            return length;
        }

        int wipe() {
            int previous = length;
            length = 0;
            return previous;
        }

        void rewind() {
            position = 0;
        }

        int firstError() {
            rewind();
            for (int i = 0; i < TEXT_ROOM; i++) {
                if (!readCommand()) {
                    return position;
                }
                if (position >= length) {
                    return NONE;
                }
                if (!readSign(';')) {
                    return position;
                }
            }
            return position;
        }

        /** Reads a command; if it is wrong, the position is then that of its error. */
        boolean readCommand() {
            word = wordFrom(current());
            if (word == null || !readWord(word.letters)) {
                return false;
            }
            first = readNumber(word.firstKind);
            if (first == NONE) {
                return false;
            }
            second = NONE;
            if (word.secondKind != NONE) {
                second = readNumber(word.secondKind);
                return second != NONE;
            }
            return true;
        }

        /** The word with this first letter: no two have the same one. */
        private static Word wordFrom(int letter) {
            for (int i = 0; i < WORDS.length; i++) {
                if (WORDS[i].letters.charAt(0) == letter) {
                    return WORDS[i];
                }
            }
            return null;
        }

        private boolean readWord(String letters) {
            for (int i = 0; i < letters.length(); i++) {
                if (!readSign(letters.charAt(i))) {
                    return false;
                }
            }
            return true;
        }

        /**
         * Reads a comma and a number of a kind; NONE if they are wrong. In every range a number's
         * first digit is a number of the range too, so a digit is allowed while the value stays in it.
         */
        private int readNumber(int kind) {
            if (!readSign(',') || kind < 0 || kind >= LOWEST.length) {
                return NONE;
            }
            int value = NONE;
            for (int i = 0; i < TEXT_ROOM; i++) {
                int digit = current() - '0';
                if (digit < 0 || digit > 9) {
                    break;
                }
                int longer = value == NONE ? digit : value * 10 + digit;
                if (value == 0 || longer < LOWEST[kind] || longer > HIGHEST[kind]) {
                    break;
                }
                value = longer;
                position++;
            }
            return value;
        }

        boolean readSign(int sign) {
            if (current() != sign) {
                return false;
            }
            position++;
            return true;
        }

        private int current() {
            return position >= 0 && position < length && position < TEXT_ROOM
                    ? characters[position] : NONE;
        }
    }
}
