import java.util.Arrays;
import java.util.NoSuchElementException;

/**
 * A water office of a river basin. The face is that of the document; the classes inside keep the
 * basin, its journal, the flow of the water and the texts. All rows are made once, with the object.
 */
public final class RiverSeniority {
    public static final int NONE = -1;

    private static final int WEEKS = 8;
    private static final int LAST_WEEK = 7;
    private static final int SCENARIOS = 3;
    private static final int MAX_PLACES = 6;
    private static final int MAX_REACHES = 9;
    private static final int MAX_RIGHTS = 10;
    private static final int MAX_BRANCHES = 3;
    private static final int MAX_UNDO = 6;
    private static final int NODES = MAX_PLACES * WEEKS;

    private static final int MAX_STORED = 60;
    private static final int MAX_SENT = 50;
    private static final int MAX_TIME = 2;
    private static final int MAX_INFLOW = 40;
    private static final int MAX_ASK = 20;
    private static final int MIN_YEAR = 1800;
    private static final int MAX_YEAR = 2099;
    private static final int MAX_PRICE = 9;
    private static final int MAX_COINS = 1000;
    private static final int MAX_BALANCE = 1000000;

    private static final int MAX_TEXT = 900;
    private static final int MAX_WRITTEN = 6400;
    private static final int MAX_TOKENS = 60;
    private static final int MAX_LEVELS = 8;
    private static final int MAX_DIGITS = 4;

    private static final String FIRST_PLACES =
        "basin;place 20 8;place 0 0;place 10 0;place 0 0;";
    private static final String FIRST_REACHES =
        "reach 0 1 12 0;reach 1 2 8 1;reach 1 3 6 0;reach 2 3 5 0;";
    private static final String FIRST_OLD_RIGHTS =
        "right 3 1862 1 coins 30 ask 0 7 7;right 1 1880 0 ask 2 5 6;";
    private static final String FIRST_YOUNG_RIGHTS =
        "right 2 1875 2 coins 8 ask 1 6 4;right 0 1901 0 ask 0 7 3;";
    private static final String FIRST_INFLOWS =
        "inflow 0 0 6 6 9 12 8 4 2 2;inflow 0 1 1 1 2 2 1 0 0 0;";
    private static final String FIRST_LOW_INFLOWS =
        "inflow 1 0 4 4 6 8 5 3 1 1;";
    private static final String FIRST_HIGH_INFLOWS =
        "inflow 2 0 9 9 12 15 12 8 5 4;inflow 2 1 2 2 3 3 2 1 0 0;";

    private final Branch[] branches;
    private int branchCount;
    private int currentBranch;
    private int changed;
    /** A basin for what only would be: of a text while it is read, or with a lease or another capacity. */
    private final Basin trial;
    private final Network network;
    private final Evaluator evaluator;
    private final Reader reader;
    private final Writer writer;
    private final boolean[] marks;
    private final boolean[] nodeSet;

    public RiverSeniority() {
        branches = new Branch[MAX_BRANCHES];
        for (int i = 0; i < MAX_BRANCHES; i++) {
            branches[i] = new Branch();
        }
        branchCount = 1;
        trial = new Basin();
        evaluator = new Evaluator();
        network = new Network(evaluator);
        Signs signs = new Signs();
        reader = new Reader(signs);
        writer = new Writer(signs);
        marks = new boolean[NODES];
        nodeSet = new boolean[NODES];
        reader.addText(FIRST_PLACES);
        reader.addText(FIRST_REACHES);
        reader.addText(FIRST_OLD_RIGHTS);
        reader.addText(FIRST_YOUNG_RIGHTS);
        reader.addText(FIRST_INFLOWS);
        reader.addText(FIRST_LOW_INFLOWS);
        reader.addText(FIRST_HIGH_INFLOWS);
        reader.takeBasin(branches[0].now());
    }

    // ---- Text

    public int append(int a, int b, int c, int d, int e) throws IllegalStateException {
        int more = bytesIn(a) + bytesIn(b) + bytesIn(c) + bytesIn(d) + bytesIn(e);
        if (reader.length + more > MAX_TEXT) {
            throw new IllegalStateException("the buffer would have more than 900 bytes");
        }
        reader.addBytes(a);
        reader.addBytes(b);
        reader.addBytes(c);
        reader.addBytes(d);
        reader.addBytes(e);
        return reader.length;
    }

    private static int bytesIn(int word) {
        int count = 0;
        for (int shift = 24; shift >= 0; shift -= 8) {
            if (((word >>> shift) & 255) != 0) {
                count++;
            }
        }
        return count;
    }

    public int clearText() {
        int before = reader.length;
        reader.length = 0;
        return before;
    }

    public int readBasin() throws IllegalArgumentException {
        if (!reader.takeBasin(trial)) {
            throw new IllegalArgumentException("the text is no basin");
        }
        startChange().copyFrom(trial);
        return endChange(before(), now().rightCount);
    }

    public int errorPosition() {
        return reader.errorAt;
    }

    public int writeBasin() {
        return writer.write(now());
    }

    public int writtenAt(int index) throws IndexOutOfBoundsException {
        if (index < 0 || index >= writer.length) {
            throw new IndexOutOfBoundsException("no such byte was written");
        }
        return writer.text[index];
    }

    // ---- Changes: basin

    public int addPlace(int capacity, int storage) throws IllegalArgumentException, IllegalStateException {
        if (!isWithin(capacity, 0, MAX_STORED) || !isWithin(storage, 0, capacity)) {
            throw new IllegalArgumentException("capacity or storage is out of range");
        }
        if (now().placeCount >= MAX_PLACES) {
            throw new IllegalStateException("there are 6 places");
        }
        startChange().joinPlace(capacity, storage);
        return endChange(before(), now().placeCount - 1);
    }

    public int addReach(int from, int to, int capacity, int time)
            throws IndexOutOfBoundsException, IllegalArgumentException, IllegalStateException {
        needPlace(from);
        needPlace(to);
        if (from == to || !isWithin(capacity, 0, MAX_SENT) || !isWithin(time, 0, MAX_TIME)) {
            throw new IllegalArgumentException("to is from, or capacity or time is out of range");
        }
        if (now().reachCount >= MAX_REACHES) {
            throw new IllegalStateException("there are 9 reaches");
        }
        startChange().joinReach(from, to, capacity, time);
        return endChange(before(), now().reachCount - 1);
    }

    public int setCapacity(int reach, int week, int capacity)
            throws IndexOutOfBoundsException, IllegalArgumentException, IllegalStateException {
        needReach(reach);
        if (!isWeek(week) || !isWithin(capacity, 0, MAX_SENT)) {
            throw new IllegalArgumentException("week or capacity is out of range");
        }
        needWeekNotOver(week);
        int before = now().reaches[reach].capacity[week];
        startChange().reaches[reach].capacity[week] = capacity;
        return endChange(before(), before);
    }

    // ---- Changes: rights

    public int addRight(int place, int year, int price)
            throws IndexOutOfBoundsException, IllegalArgumentException, IllegalStateException {
        needPlace(place);
        if (!isWithin(year, MIN_YEAR, MAX_YEAR) || !isWithin(price, 0, MAX_PRICE)) {
            throw new IllegalArgumentException("year or price is out of range");
        }
        if (now().rightCount >= MAX_RIGHTS) {
            throw new IllegalStateException("there are 10 rights");
        }
        startChange().joinRight(place, year, price);
        return endChange(before(), now().rightCount - 1);
    }

    public int setAsk(int right, int first, int last, int amount)
            throws IndexOutOfBoundsException, IllegalArgumentException, IllegalStateException {
        needRight(right);
        if (!isSpan(first, last) || !isWithin(amount, 0, MAX_ASK)) {
            throw new IllegalArgumentException("first, last or amount is out of range");
        }
        if (first < now().today || now().rights[right].abandoned) {
            throw new IllegalStateException("the first week is over, or the right is abandoned");
        }
        int different = startChange().rights[right].askFor(first, last, amount);
        return endChange(before(), different);
    }

    public int setDecree(int right) throws IndexOutOfBoundsException, IllegalStateException, IllegalArgumentException {
        needRight(right);
        if (now().rights[right].abandoned) {
            throw new IllegalStateException("the right is abandoned");
        }
        if (!reader.takeDecree()) {
            throw new IllegalArgumentException("the text is no decree");
        }
        startChange().rights[right].decide(reader.decree, reader.decreeLength);
        return endChange(before(), reader.decreeLength);
    }

    public int abandon(int right) throws IndexOutOfBoundsException, IllegalStateException {
        needRight(right);
        if (now().rights[right].abandoned) {
            throw new IllegalStateException("the right is abandoned");
        }
        network.plan(now(), 0);
        int lost = now().amountsFrom(right, now().today);
        startChange().rights[right].abandoned = true;
        return endChange(before(), lost);
    }

    public int fund(int right, int coins)
            throws IndexOutOfBoundsException, IllegalArgumentException, IllegalStateException {
        needRight(right);
        if (!isWithin(coins, 1, MAX_COINS)) {
            throw new IllegalArgumentException("coins is out of range");
        }
        int after = now().rights[right].balance + coins;
        if (after > MAX_BALANCE) {
            throw new IllegalStateException("the balance would be greater than 1000000");
        }
        startChange().rights[right].balance = after;
        return endChange(before(), after);
    }

    public int lease(int right, int place, int amount, int first, int last)
            throws IndexOutOfBoundsException, IllegalArgumentException, IllegalStateException {
        needLease(right, place, amount, first, last);
        if (firstInjured(right, place, amount, first, last) != NONE) {
            throw new IllegalStateException("the lease is not admitted");
        }
        startChange().leaseOut(right, place, amount, first, last);
        return endChange(before(), now().rightCount - 1);
    }

    // ---- Changes: weeks

    public int setInflow(int scenario, int place, int week, int amount)
            throws IndexOutOfBoundsException, IllegalArgumentException, IllegalStateException {
        needScenario(scenario);
        needPlace(place);
        if (!isWeek(week) || !isWithin(amount, 0, MAX_INFLOW)) {
            throw new IllegalArgumentException("week or amount is out of range");
        }
        needWeekNotOver(week);
        int before = now().places[place].inflow[scenario * WEEKS + week];
        startChange().places[place].inflow[scenario * WEEKS + week] = amount;
        return endChange(before(), before);
    }

    public int gauge(int place, int amount)
            throws IndexOutOfBoundsException, IllegalArgumentException, IllegalStateException {
        needPlace(place);
        if (!isWithin(amount, 0, MAX_INFLOW)) {
            throw new IllegalArgumentException("amount is out of range");
        }
        int today = now().today;
        needWeekNotOver(LAST_WEEK);
        int before = now().places[place].inflow[today];
        Place gauged = startChange().places[place];
        for (int scenario = 0; scenario < SCENARIOS; scenario++) {
            gauged.inflow[scenario * WEEKS + today] = amount;
        }
        return endChange(before(), before);
    }

    public int measure(int place, int storage)
            throws IndexOutOfBoundsException, IllegalArgumentException, IllegalStateException {
        needPlace(place);
        if (!isWithin(storage, 0, now().places[place].capacity)) {
            throw new IllegalArgumentException("storage is out of range");
        }
        int today = now().today;
        needWeekNotOver(LAST_WEEK);
        int before = now().places[place].storage[today];
        startChange().places[place].storage[today] = storage;
        return endChange(before(), before);
    }

    public int passWeek() throws IllegalStateException {
        needWeekNotOver(LAST_WEEK);
        network.findWay(now());
        Basin basin = startChange();
        int week = basin.today;
        for (int right = 0; right < basin.rightCount; right++) {
            basin.rights[right].settle(week, evaluator.asked(basin, 0, right, week));
        }
        basin.today = week + 1;
        return endChange(before(), week + 1);
    }

    // ---- Journal and branches

    public int undo() {
        Branch branch = branches[currentBranch];
        if (branch.undoable == 0) {
            return NONE;
        }
        Basin before = branch.now();
        branch.undoable--;
        branch.redoable++;
        return endChange(before, branch.undoable);
    }

    public int redo() {
        Branch branch = branches[currentBranch];
        if (branch.redoable == 0) {
            return NONE;
        }
        Basin before = branch.now();
        branch.undoable++;
        branch.redoable--;
        return endChange(before, branch.redoable);
    }

    public int createBranch() throws IllegalStateException {
        if (branchCount >= MAX_BRANCHES) {
            throw new IllegalStateException("there are 3 branches");
        }
        branches[branchCount].now().copyFrom(now());
        branchCount++;
        return branchCount - 1;
    }

    public int switchBranch(int branch) throws IndexOutOfBoundsException {
        needBranch(branch);
        int before = currentBranch;
        currentBranch = branch;
        return before;
    }

    public int difference(int branch) throws IndexOutOfBoundsException {
        needBranch(branch);
        Basin here = now();
        Basin there = branches[branch].now();
        network.plan(here, 0);
        network.plan(there, 0);
        int count = 0;
        for (int right = 0; right < MAX_RIGHTS; right++) {
            for (int week = 0; week < WEEKS; week++) {
                if (here.given(0, right, week) != there.given(0, right, week)) {
                    count++;
                }
            }
        }
        return count;
    }

    // ---- What there is

    public int today() {
        return now().today;
    }

    public int placeCount() {
        return now().placeCount;
    }

    public int reachCount() {
        return now().reachCount;
    }

    public int rightCount() {
        return now().rightCount;
    }

    public int capacityAt(int reach, int week) throws IndexOutOfBoundsException, IllegalArgumentException {
        needReach(reach);
        needWeek(week);
        return now().reaches[reach].capacity[week];
    }

    public int inflowAt(int scenario, int place, int week) throws IndexOutOfBoundsException, IllegalArgumentException {
        needScenario(scenario);
        needPlace(place);
        needWeek(week);
        return now().places[place].inflow[scenario * WEEKS + week];
    }

    public int askedAt(int scenario, int right, int week) throws IndexOutOfBoundsException, IllegalArgumentException {
        needScenario(scenario);
        needRight(right);
        needWeek(week);
        return evaluator.asked(now(), scenario, right, week);
    }

    public int decreeValue(int scenario, int right, int week)
            throws IndexOutOfBoundsException, IllegalArgumentException, NoSuchElementException {
        needScenario(scenario);
        needRight(right);
        needWeek(week);
        if (now().rights[right].decreeLength == 0) {
            throw new NoSuchElementException("the right has no decree");
        }
        return evaluator.worth(now(), scenario, now().rights[right], week);
    }

    public int rankOf(int right) throws IndexOutOfBoundsException {
        needRight(right);
        return now().rank(right);
    }

    public int lessorOf(int right) throws IndexOutOfBoundsException {
        needRight(right);
        return now().rights[right].lessor;
    }

    public int balance(int right) throws IndexOutOfBoundsException {
        needRight(right);
        return now().rights[right].balance;
    }

    // ---- The plan and the office's way

    public int amountAt(int scenario, int right, int week) throws IndexOutOfBoundsException, IllegalArgumentException {
        needScenario(scenario);
        needRight(right);
        needWeek(week);
        network.plan(now(), scenario);
        return now().given(scenario, right, week);
    }

    public int total(int right) throws IndexOutOfBoundsException {
        needRight(right);
        network.plan(now(), 0);
        return now().amountsFrom(right, 0);
    }

    public int shortage(int right, int week) throws IndexOutOfBoundsException, IllegalArgumentException {
        needRight(right);
        needWeek(week);
        return shortageOf(right, week);
    }

    public int sent(int reach, int week) throws IndexOutOfBoundsException, IllegalArgumentException {
        needReach(reach);
        needWeek(week);
        network.findWay(now());
        return now().reaches[reach].sent[week];
    }

    public int storageAt(int place, int week) throws IndexOutOfBoundsException, IllegalArgumentException {
        needPlace(place);
        if (!isWithin(week, 0, WEEKS)) {
            throw new IllegalArgumentException("week is out of range");
        }
        network.findWay(now());
        return now().places[place].storage[week];
    }

    public int runOff(int place, int week) throws IndexOutOfBoundsException, IllegalArgumentException {
        needPlace(place);
        needWeek(week);
        network.findWay(now());
        return now().places[place].ranOff[week];
    }

    public int changedAmounts() {
        return changed;
    }

    // ---- Witnesses and marks

    public int witnessSize(int right, int week)
            throws IndexOutOfBoundsException, IllegalArgumentException, NoSuchElementException {
        needShortage(right, week);
        network.findWitness(now(), right, week);
        int size = 0;
        for (int node = 0; node < NODES; node++) {
            if (network.reached[node]) {
                size++;
            }
        }
        return size;
    }

    public int markWitness(int right, int week)
            throws IndexOutOfBoundsException, IllegalArgumentException, NoSuchElementException {
        needShortage(right, week);
        network.findWitness(now(), right, week);
        for (int node = 0; node < NODES; node++) {
            marks[node] = network.reached[node];
        }
        return network.waterInto(marks);
    }

    public boolean mark(int place, int week, boolean on) throws IndexOutOfBoundsException, IllegalArgumentException {
        needPlace(place);
        needWeek(week);
        boolean before = marks[place * WEEKS + week];
        marks[place * WEEKS + week] = on;
        return before;
    }

    public int clearMarks() {
        int count = 0;
        for (int node = 0; node < NODES; node++) {
            if (marks[node]) {
                count++;
            }
            marks[node] = false;
        }
        return count;
    }

    public boolean isMarked(int place, int week) throws IndexOutOfBoundsException, IllegalArgumentException {
        needPlace(place);
        needWeek(week);
        return marks[place * WEEKS + week];
    }

    public int waterIntoMarks() {
        gatherMarkedNodes();
        network.load(now(), 0);
        return network.waterInto(nodeSet);
    }

    public int takenInMarks(int right, int week)
            throws IndexOutOfBoundsException, IllegalArgumentException, IllegalStateException {
        needRight(right);
        needWeek(week);
        needWeekNotOver(week);
        gatherMarkedNodes();
        network.plan(now(), 0);
        return now().takenIn(nodeSet, right, week);
    }

    // ---- What would be; nothing changes

    public int helpedRight(int reach, int week)
            throws IndexOutOfBoundsException, IllegalArgumentException, IllegalStateException {
        needReach(reach);
        needWeek(week);
        needWeekNotOver(week);
        startTrial().reaches[reach].capacity[week]++;
        network.plan(now(), 0);
        network.plan(trial, 0);
        for (int rank = 0; rank < now().rightCount; rank++) {
            int right = now().rightOfRank(rank);
            if (trial.isUnlike(now(), right)) {
                return right;
            }
        }
        return NONE;
    }

    public int closureCost(int reach, int week)
            throws IndexOutOfBoundsException, IllegalArgumentException, IllegalStateException {
        needReach(reach);
        needWeek(week);
        needWeekNotOver(week);
        startTrial().reaches[reach].capacity[week] = 0;
        network.plan(now(), 0);
        network.plan(trial, 0);
        int lost = 0;
        for (int right = 0; right < now().rightCount; right++) {
            lost += now().amountsFrom(right, now().today) - trial.amountsFrom(right, now().today);
        }
        return lost;
    }

    public int harm(int right, int other) throws IndexOutOfBoundsException, IllegalArgumentException {
        needRight(right);
        needRight(other);
        if (right == other) {
            throw new IllegalArgumentException("right and other are the same");
        }
        // An abandoned right asks for nothing, which is all that is to be tried here.
        startTrial().rights[other].abandoned = true;
        network.plan(now(), 0);
        network.plan(trial, 0);
        return trial.amountsFrom(right, now().today) - now().amountsFrom(right, now().today);
    }

    public int injuredRight(int right, int place, int amount, int first, int last)
            throws IndexOutOfBoundsException, IllegalArgumentException, IllegalStateException {
        needLease(right, place, amount, first, last);
        return firstInjured(right, place, amount, first, last);
    }

    public int greatestLease(int right, int place, int first, int last)
            throws IndexOutOfBoundsException, IllegalArgumentException, IllegalStateException {
        needRight(right);
        needPlace(place);
        if (!isSpan(first, last)) {
            throw new IllegalArgumentException("first or last is out of range");
        }
        needWeekNotOver(first);
        for (int amount = MAX_ASK; amount > 0; amount--) {
            if (now().canLeaseOut(right, amount, first, last)
                    && firstInjured(right, place, amount, first, last) == NONE) {
                return amount;
            }
        }
        return 0;
    }

    // ---- Measures and the second way

    public double meanShortage() {
        Basin basin = now();
        int pairs = basin.rightCount * (WEEKS - basin.today);
        if (pairs <= 0) {
            return 0.0;
        }
        int sum = 0;
        for (int right = 0; right < basin.rightCount; right++) {
            for (int week = basin.today; week < WEEKS; week++) {
                sum += shortageOf(right, week);
            }
        }
        return (double) sum / (double) pairs;
    }

    public float servedShare() {
        Basin basin = now();
        network.plan(basin, 0);
        int given = 0;
        int asked = 0;
        for (int right = 0; right < basin.rightCount; right++) {
            given += basin.amountsFrom(right, 0);
            for (int week = 0; week < WEEKS; week++) {
                asked += evaluator.asked(basin, 0, right, week);
            }
        }
        if (asked <= 0) {
            return 0.0f;
        }
        return (float) given / (float) asked;
    }

    public int errors() {
        Basin basin = now();
        network.findWay(basin);
        return network.wrongWitnesses(basin) + network.wrongNodes(basin) + basin.wrongSendings();
    }

    // ---- What the calls share

    private Basin now() {
        return branches[currentBranch].now();
    }

    /** The basin that a change may write into: a copy of the present one, which is the present one then. */
    private Basin startChange() {
        Basin basin = branches[currentBranch].startChange();
        basin.forgetPlans();
        return basin;
    }

    private Basin before() {
        return branches[currentBranch].before();
    }

    /** Counts the changed amounts of a change, undo or redo, and hands its answer on. */
    private int endChange(Basin before, int answer) {
        Basin after = now();
        network.plan(before, 0);
        network.plan(after, 0);
        int count = 0;
        for (int right = 0; right < after.rightCount; right++) {
            for (int week = after.today; week < WEEKS; week++) {
                if (before.given(0, right, week) != after.given(0, right, week)) {
                    count++;
                }
            }
        }
        changed = count;
        return answer;
    }

    private Basin startTrial() {
        trial.copyFrom(now());
        trial.forgetPlans();
        return trial;
    }

    private int firstInjured(int lessor, int place, int amount, int first, int last) {
        startTrial().leaseOut(lessor, place, amount, first, last);
        for (int scenario = 0; scenario < SCENARIOS; scenario++) {
            network.plan(now(), scenario);
            network.plan(trial, scenario);
            for (int right = 0; right < now().rightCount; right++) {
                if (right != lessor && trial.getsLess(now(), scenario, right)) {
                    return right;
                }
            }
        }
        return NONE;
    }

    private int shortageOf(int right, int week) {
        network.plan(now(), 0);
        return evaluator.asked(now(), 0, right, week) - now().given(0, right, week);
    }

    private void gatherMarkedNodes() {
        Basin basin = now();
        for (int node = 0; node < NODES; node++) {
            boolean isNode = node / WEEKS < basin.placeCount && node % WEEKS >= basin.today;
            nodeSet[node] = isNode && marks[node];
        }
    }

    private void needPlace(int place) {
        if (place < 0 || place >= now().placeCount) {
            throw new IndexOutOfBoundsException("there is no such place");
        }
    }

    private void needReach(int reach) {
        if (reach < 0 || reach >= now().reachCount) {
            throw new IndexOutOfBoundsException("there is no such reach");
        }
    }

    private void needRight(int right) {
        if (right < 0 || right >= now().rightCount) {
            throw new IndexOutOfBoundsException("there is no such right");
        }
    }

    private void needScenario(int scenario) {
        if (scenario < 0 || scenario >= SCENARIOS) {
            throw new IndexOutOfBoundsException("there is no such scenario");
        }
    }

    private void needBranch(int branch) {
        if (branch < 0 || branch >= branchCount) {
            throw new IndexOutOfBoundsException("there is no such branch");
        }
    }

    private void needWeek(int week) {
        if (!isWeek(week)) {
            throw new IllegalArgumentException("week is out of range");
        }
    }

    private void needWeekNotOver(int week) {
        if (week < now().today) {
            throw new IllegalStateException("the week is over");
        }
    }

    private void needShortage(int right, int week) {
        needRight(right);
        needWeek(week);
        if (week < now().today || shortageOf(right, week) <= 0) {
            throw new NoSuchElementException("the week is over, or nothing is short");
        }
    }

    private void needLease(int right, int place, int amount, int first, int last) {
        needRight(right);
        needPlace(place);
        if (!isWithin(amount, 1, MAX_ASK) || !isSpan(first, last)) {
            throw new IllegalArgumentException("amount, first or last is out of range");
        }
        if (first < now().today || !now().canLeaseOut(right, amount, first, last)) {
            throw new IllegalStateException("the right cannot lease this out");
        }
    }

    private static boolean isWithin(int value, int low, int high) {
        return value >= low && value <= high;
    }

    private static boolean isWeek(int week) {
        return week >= 0 && week < WEEKS;
    }

    private static boolean isSpan(int first, int last) {
        return isWeek(first) && isWeek(last) && first <= last;
    }

    /** A place and what it has stored and lost. */
    private static final class Place {
        int capacity;
        /** At the beginning of each week; that of the present week is the present storage. */
        final int[] storage = new int[WEEKS + 1];
        final int[] ranOff = new int[WEEKS];
        /** By scenario and week. */
        final int[] inflow = new int[SCENARIOS * WEEKS];

        void reset() {
            capacity = 0;
            Arrays.fill(storage, 0);
            Arrays.fill(ranOff, 0);
            Arrays.fill(inflow, 0);
        }

        void copyFrom(Place other) {
            capacity = other.capacity;
            System.arraycopy(other.storage, 0, storage, 0, WEEKS + 1);
            System.arraycopy(other.ranOff, 0, ranOff, 0, WEEKS);
            System.arraycopy(other.inflow, 0, inflow, 0, SCENARIOS * WEEKS);
        }
    }

    /** A reach and what it has sent, or will send by the office's way. */
    private static final class Reach {
        int from;
        int to;
        int time;
        final int[] capacity = new int[WEEKS];
        final int[] sent = new int[WEEKS];

        void reset() {
            from = 0;
            to = 0;
            time = 0;
            Arrays.fill(capacity, 0);
            Arrays.fill(sent, 0);
        }

        void copyFrom(Reach other) {
            from = other.from;
            to = other.to;
            time = other.time;
            System.arraycopy(other.capacity, 0, capacity, 0, WEEKS);
            System.arraycopy(other.sent, 0, sent, 0, WEEKS);
        }
    }

    /** A right, its decree, and its amounts. */
    private static final class Right {
        int place;
        int year;
        int price;
        int balance;
        int root;
        int lessor;
        boolean abandoned;
        final int[] ask = new int[WEEKS];
        /** What it asked for in the weeks that are over. */
        final int[] asked = new int[WEEKS];
        /** By scenario and week; those of weeks that are over are the same in every scenario. */
        final int[] amount = new int[SCENARIOS * WEEKS];
        /** The tokens: a number as it is, a sign below 0. */
        final int[] decree = new int[MAX_TOKENS];
        int decreeLength;

        void reset() {
            place = 0;
            year = 0;
            price = 0;
            balance = 0;
            root = 0;
            lessor = NONE;
            abandoned = false;
            Arrays.fill(ask, 0);
            Arrays.fill(asked, 0);
            Arrays.fill(amount, 0);
            decreeLength = 0;
        }

        void copyFrom(Right other) {
            place = other.place;
            year = other.year;
            price = other.price;
            balance = other.balance;
            root = other.root;
            lessor = other.lessor;
            abandoned = other.abandoned;
            System.arraycopy(other.ask, 0, ask, 0, WEEKS);
            System.arraycopy(other.asked, 0, asked, 0, WEEKS);
            System.arraycopy(other.amount, 0, amount, 0, SCENARIOS * WEEKS);
            decide(other.decree, other.decreeLength);
        }

        void decide(int[] tokens, int count) {
            if (count >= 0 && count <= MAX_TOKENS && count <= tokens.length) {
                System.arraycopy(tokens, 0, decree, 0, count);
                decreeLength = count;
            }
        }

        int askFor(int first, int last, int units) {
            int different = 0;
            for (int week = first; week <= last && week < WEEKS; week++) {
                if (ask[week] != units) {
                    different++;
                }
                ask[week] = units;
            }
            return different;
        }

        void settle(int week, int askedThen) {
            asked[week] = askedThen;
            balance -= price * amount[week];
            for (int scenario = 1; scenario < SCENARIOS; scenario++) {
                amount[scenario * WEEKS + week] = amount[week];
            }
        }
    }

    /** All that belongs to a branch at one time, with the plans and the way as far as they are found. */
    private static final class Basin {
        int today;
        int placeCount;
        int reachCount;
        int rightCount;
        final Place[] places = new Place[MAX_PLACES];
        final Reach[] reaches = new Reach[MAX_REACHES];
        final Right[] rights = new Right[MAX_RIGHTS];
        /** Whether the amounts of the weeks that are not over are those of the plan, by scenario. */
        final boolean[] planned = new boolean[SCENARIOS];
        /** Whether what is sent, stored and runs off in the weeks that are not over is the office's way. */
        boolean wayFound;

        Basin() {
            for (int i = 0; i < MAX_PLACES; i++) {
                places[i] = new Place();
            }
            for (int i = 0; i < MAX_REACHES; i++) {
                reaches[i] = new Reach();
            }
            for (int i = 0; i < MAX_RIGHTS; i++) {
                rights[i] = new Right();
            }
        }

        /** The rows are emptied when something joins. */
        void reset() {
            today = 0;
            placeCount = 0;
            reachCount = 0;
            rightCount = 0;
            forgetPlans();
        }

        void copyFrom(Basin other) {
            today = other.today;
            placeCount = other.placeCount;
            reachCount = other.reachCount;
            rightCount = other.rightCount;
            for (int i = 0; i < MAX_PLACES; i++) {
                places[i].copyFrom(other.places[i]);
            }
            for (int i = 0; i < MAX_REACHES; i++) {
                reaches[i].copyFrom(other.reaches[i]);
            }
            for (int i = 0; i < MAX_RIGHTS; i++) {
                rights[i].copyFrom(other.rights[i]);
            }
            for (int scenario = 0; scenario < SCENARIOS; scenario++) {
                planned[scenario] = other.planned[scenario];
            }
            wayFound = other.wayFound;
        }

        void forgetPlans() {
            for (int scenario = 0; scenario < SCENARIOS; scenario++) {
                planned[scenario] = false;
            }
            wayFound = false;
        }

        void joinPlace(int capacity, int storage) {
            if (placeCount < MAX_PLACES) {
                Place place = places[placeCount];
                place.reset();
                place.capacity = capacity;
                place.storage[today] = storage;
                placeCount++;
            }
        }

        void joinReach(int from, int to, int capacity, int time) {
            if (reachCount < MAX_REACHES) {
                Reach reach = reaches[reachCount];
                reach.reset();
                reach.from = from;
                reach.to = to;
                reach.time = time;
                Arrays.fill(reach.capacity, capacity);
                reachCount++;
            }
        }

        void joinRight(int place, int year, int price) {
            if (rightCount < MAX_RIGHTS) {
                Right right = rights[rightCount];
                right.reset();
                right.place = place;
                right.year = year;
                right.price = price;
                right.root = rightCount;
                rightCount++;
            }
        }

        boolean canLeaseOut(int right, int amount, int first, int last) {
            Right lessor = rights[right];
            if (rightCount >= MAX_RIGHTS || lessor.abandoned || lessor.balance < 0) {
                return false;
            }
            for (int week = first; week <= last && week < WEEKS; week++) {
                if (lessor.ask[week] < amount) {
                    return false;
                }
            }
            return true;
        }

        void leaseOut(int right, int place, int amount, int first, int last) {
            int number = rightCount;
            if (number >= MAX_RIGHTS) {
                return;
            }
            Right lessor = rights[right];
            joinRight(place, lessor.year, lessor.price);
            Right leased = rights[number];
            leased.root = lessor.root;
            leased.lessor = right;
            for (int week = first; week <= last && week < WEEKS; week++) {
                lessor.ask[week] -= amount;
                leased.ask[week] = amount;
            }
        }

        boolean isOlder(int right, int other) {
            Right one = rights[right];
            Right two = rights[other];
            if (one.year != two.year) {
                return one.year < two.year;
            }
            if (one.root != two.root) {
                return one.root < two.root;
            }
            return right < other;
        }

        int rank(int right) {
            int older = 0;
            for (int other = 0; other < rightCount; other++) {
                if (isOlder(other, right)) {
                    older++;
                }
            }
            return older;
        }

        int rightOfRank(int rank) {
            for (int right = 0; right < rightCount; right++) {
                if (rank(right) == rank) {
                    return right;
                }
            }
            return 0;
        }

        /** The amount, or 0 if the right is not there. */
        int given(int scenario, int right, int week) {
            return right < rightCount ? rights[right].amount[scenario * WEEKS + week] : 0;
        }

        int amountsFrom(int right, int first) {
            int sum = 0;
            for (int week = first; week < WEEKS; week++) {
                sum += rights[right].amount[week];
            }
            return sum;
        }

        boolean getsLess(Basin other, int scenario, int right) {
            for (int week = today; week < WEEKS; week++) {
                if (given(scenario, right, week) < other.given(scenario, right, week)) {
                    return true;
                }
            }
            return false;
        }

        boolean isUnlike(Basin other, int right) {
            return getsLess(other, 0, right) || other.getsLess(this, 0, right);
        }

        /** What is taken in a set of nodes up to an amount, by the plan of scenario 0. */
        int takenIn(boolean[] set, int right, int week) {
            int sum = 0;
            for (int other = 0; other < rightCount; other++) {
                int last = other == right ? week : isOlder(other, right) ? LAST_WEEK : NONE;
                for (int then = today; then <= last; then++) {
                    if (set[rights[other].place * WEEKS + then]) {
                        sum += rights[other].amount[then];
                    }
                }
            }
            return sum;
        }

        int wrongSendings() {
            int wrong = 0;
            for (int reach = 0; reach < reachCount; reach++) {
                for (int week = today; week < WEEKS; week++) {
                    if (reaches[reach].sent[week] > reaches[reach].capacity[week]) {
                        wrong++;
                    }
                }
            }
            return wrong;
        }
    }

    /** A branch with its journal: the states ahead of the present one can come back, and those behind it. */
    private static final class Branch {
        final Basin[] states = new Basin[MAX_UNDO + 1];
        int undoable;
        int redoable;

        Branch() {
            for (int i = 0; i <= MAX_UNDO; i++) {
                states[i] = new Basin();
            }
        }

        Basin now() {
            return states[undoable];
        }

        /** The state ahead of the latest change. */
        Basin before() {
            return states[undoable > 0 ? undoable - 1 : 0];
        }

        Basin startChange() {
            Basin before = now();
            if (undoable < MAX_UNDO) {
                undoable++;
            } else {
                forgetOldest();
            }
            redoable = 0;
            now().copyFrom(before);
            return now();
        }

        /** The rows of the forgotten state serve the next one. */
        private void forgetOldest() {
            Basin oldest = states[0];
            for (int i = 0; i < MAX_UNDO; i++) {
                states[i] = states[i + 1];
            }
            states[MAX_UNDO] = oldest;
        }
    }

    /** Tells what rights ask for, and what their decrees are worth. */
    private static final class Evaluator {
        private int scenario;
        private int week;
        private int at;

        int asked(Basin basin, int byScenario, int right, int inWeek) {
            Right asker = basin.rights[right];
            if (inWeek < basin.today) {
                return asker.asked[inWeek];
            }
            if (asker.abandoned || asker.balance < 0) {
                return 0;
            }
            int ask = asker.ask[inWeek];
            if (asker.decreeLength == 0) {
                return ask;
            }
            int value = worth(basin, byScenario, asker, inWeek);
            return value < 0 ? 0 : value < ask ? value : ask;
        }

        int worth(Basin basin, int byScenario, Right owner, int inWeek) {
            scenario = byScenario;
            week = inWeek;
            at = 0;
            return expression(basin, owner, 0);
        }

        /** The levels are counted as the reader counts them, so no decree that was read goes deeper. */
        private int expression(Basin basin, Right owner, int level) {
            if (level > MAX_LEVELS) {
                return 0;
            }
            if (signOf(owner) != Signs.IF) {
                return sum(basin, owner, level);
            }
            at++;
            int left = sum(basin, owner, level + 1);
            int comparison = signOf(owner);
            at++;
            int right = sum(basin, owner, level + 1);
            at++;
            int yes = expression(basin, owner, level + 1);
            at++;
            int no = expression(basin, owner, level + 1);
            return holds(left, comparison, right) ? yes : no;
        }

        private static boolean holds(int left, int comparison, int right) {
            if (comparison == Signs.LESS) {
                return left < right;
            }
            return comparison == Signs.MORE ? left > right : left == right;
        }

        private int sum(Basin basin, Right owner, int level) {
            int value = product(basin, owner, level);
            for (int i = 0; i < MAX_TOKENS; i++) {
                int sign = signOf(owner);
                if (sign != Signs.PLUS && sign != Signs.MINUS) {
                    break;
                }
                at++;
                int next = product(basin, owner, level);
                value = sign == Signs.PLUS ? value + next : value - next;
            }
            return value;
        }

        private int product(Basin basin, Right owner, int level) {
            int value = factor(basin, owner, level);
            for (int i = 0; i < MAX_TOKENS; i++) {
                int sign = signOf(owner);
                if (sign != Signs.TIMES && sign != Signs.OVER) {
                    break;
                }
                at++;
                int next = factor(basin, owner, level);
                if (sign == Signs.TIMES) {
                    value = value * next;
                } else {
                    value = next == 0 ? 0 : value / next;
                }
            }
            return value;
        }

        private int factor(Basin basin, Right owner, int level) {
            int sign = signOf(owner);
            int first = sign == Signs.NUMBER ? owner.decree[at] : 0;
            at++;
            if (sign == Signs.NUMBER) {
                return first;
            }
            if (sign == Signs.WEEK) {
                return week;
            }
            if (sign != Signs.OPEN) {
                at++;
            }
            int value = expression(basin, owner, level + 1);
            if (sign == Signs.LEAST || sign == Signs.MOST) {
                at++;
                int other = expression(basin, owner, level + 1);
                boolean takesOther = sign == Signs.LEAST ? other < value : other > value;
                value = takesOther ? other : value;
            }
            at++;
            if (sign == Signs.FLOW) {
                return flow(basin, value, week, week);
            }
            return sign == Signs.TOTAL ? flow(basin, value, 0, LAST_WEEK) : value;
        }

        private int flow(Basin basin, int place, int first, int last) {
            int sum = 0;
            if (place >= 0 && place < basin.placeCount) {
                for (int then = first; then <= last && then < WEEKS; then++) {
                    sum += basin.places[place].inflow[scenario * WEEKS + then];
                }
            }
            return sum;
        }

        private int signOf(Right owner) {
            if (at >= owner.decreeLength || at >= MAX_TOKENS) {
                return Signs.END;
            }
            return owner.decree[at] < 0 ? -owner.decree[at] : Signs.NUMBER;
        }
    }

    /**
     * The water on its ways through places and weeks. A channel is a reach, or the reservoir of a place:
     * this one leads from the place to itself and takes a week. An arc is a channel in a week, a node a
     * place in a week. Spare water at a node is what neither an amount nor an arc takes from there.
     */
    private static final class Network {
        private static final int CHANNELS = MAX_REACHES + MAX_PLACES;
        private static final int ARCS = CHANNELS * WEEKS;

        private final Evaluator evaluator;
        private int today;
        private final int[] from = new int[CHANNELS];
        private final int[] to = new int[CHANNELS];
        private final int[] time = new int[CHANNELS];
        private final int[] room = new int[ARCS];
        private final int[] flow = new int[ARCS];
        /** Arcs whose sending is told by the office's way: their flow is looked at no more. */
        private final boolean[] settled = new boolean[ARCS];
        private final int[] supply = new int[NODES];
        private final int[] spare = new int[NODES];
        /** Nodes to which no spare water can come, whatever else the plan carries. */
        private final boolean[] dry = new boolean[NODES];
        /** The nodes from which water can come to the node that was looked back from last. */
        final boolean[] reached = new boolean[NODES];
        private final int[] queue = new int[NODES];
        private int queued;
        /** By which arc, and to which node, water of a reached node comes nearer. */
        private final int[] via = new int[NODES];
        private final int[] toward = new int[NODES];
        private final int[] order = new int[MAX_RIGHTS];

        Network(Evaluator evaluator) {
            this.evaluator = evaluator;
        }

        /** Finds the plan of a scenario, if it is not found yet. */
        void plan(Basin basin, int scenario) {
            if (basin.planned[scenario]) {
                return;
            }
            load(basin, scenario);
            for (int rank = 0; rank < basin.rightCount; rank++) {
                Right right = basin.rights[order[rank]];
                for (int week = today; week < WEEKS; week++) {
                    int asked = evaluator.asked(basin, scenario, order[rank], week);
                    int node = right.place * WEEKS + week;
                    int amount = bring(node, asked);
                    right.amount[scenario * WEEKS + week] = amount;
                    // At a dry node nothing was looked for, so the reached nodes are older ones.
                    if (amount < asked && !dry[node]) {
                        markDry();
                    }
                }
            }
            basin.planned[scenario] = true;
        }

        /** What is carried later leads past the nodes that got too little, so they stay dry. */
        private void markDry() {
            for (int i = 0; i < queued && i < NODES; i++) {
                dry[queue[i]] = true;
            }
        }

        private void clearDry() {
            for (int node = 0; node < NODES; node++) {
                dry[node] = false;
            }
        }

        /** Finds the office's way, if it is not found yet. */
        void findWay(Basin basin) {
            if (basin.wayFound) {
                return;
            }
            // The flow is needed, too, and this may carry another plan by now.
            basin.planned[0] = false;
            plan(basin, 0);
            clearDry();
            for (int week = today; week < WEEKS; week++) {
                for (int reach = 0; reach < basin.reachCount; reach++) {
                    basin.reaches[reach].sent[week] = settle(reach, week);
                }
            }
            for (int week = today; week < WEEKS; week++) {
                for (int place = 0; place < basin.placeCount; place++) {
                    store(basin.places[place], week, waterAt(basin, place, week) - takenAt(basin, place, week));
                }
            }
            basin.wayFound = true;
        }

        /** Makes the sending of a reach the least one that all settled ones and the plan leave to it. */
        private int settle(int reach, int week) {
            int arc = reach * WEEKS + week;
            int sending = flow[arc];
            settled[arc] = true;
            if (sending == 0) {
                return 0;
            }
            // The whole sending is kept back at first; what cannot come by another way is sent after all.
            int tail = from[reach] * WEEKS + week;
            spare[tail] += sending;
            int needed = sending - bring(to[reach] * WEEKS + week + time[reach], sending);
            spare[tail] -= needed;
            return needed;
        }

        private static void store(Place place, int week, int left) {
            int stored = left < place.capacity ? left : place.capacity;
            place.storage[week + 1] = stored;
            place.ranOff[week] = left - stored;
        }

        private int waterAt(Basin basin, int place, int week) {
            int water = supply[place * WEEKS + week];
            if (week > today) {
                water += basin.places[place].storage[week];
            }
            for (int i = 0; i < basin.reachCount; i++) {
                Reach reach = basin.reaches[i];
                int then = week - reach.time;
                if (reach.to == place && then >= today) {
                    water += reach.sent[then];
                }
            }
            return water;
        }

        private static int takenAt(Basin basin, int place, int week) {
            int taken = 0;
            for (int right = 0; right < basin.rightCount; right++) {
                if (basin.rights[right].place == place) {
                    taken += basin.rights[right].amount[week];
                }
            }
            for (int reach = 0; reach < basin.reachCount; reach++) {
                if (basin.reaches[reach].from == place) {
                    taken += basin.reaches[reach].sent[week];
                }
            }
            return taken;
        }

        /** Leaves the witness of an amount as the reached nodes. */
        void findWitness(Basin basin, int right, int week) {
            plan(basin, 0);
            load(basin, 0);
            for (int rank = 0; rank < basin.rightCount; rank++) {
                int other = order[rank];
                int place = basin.rights[other].place;
                for (int then = today; then < WEEKS; then++) {
                    bring(place * WEEKS + then, basin.rights[other].amount[then]);
                    if (other == right && then == week) {
                        findSpare(place * WEEKS + then);
                        return;
                    }
                }
            }
        }

        /** The number of shortages whose witness does not hold them down. */
        int wrongWitnesses(Basin basin) {
            load(basin, 0);
            int wrong = 0;
            for (int rank = 0; rank < basin.rightCount; rank++) {
                int right = order[rank];
                int place = basin.rights[right].place;
                for (int week = today; week < WEEKS; week++) {
                    int amount = basin.rights[right].amount[week];
                    bring(place * WEEKS + week, amount);
                    if (evaluator.asked(basin, 0, right, week) > amount) {
                        findSpare(place * WEEKS + week);
                        wrong += waterInto(reached) == basin.takenIn(reached, right, week) ? 0 : 1;
                    }
                }
            }
            return wrong;
        }

        int wrongNodes(Basin basin) {
            int wrong = 0;
            for (int place = 0; place < basin.placeCount; place++) {
                for (int week = today; week < WEEKS; week++) {
                    int kept = basin.places[place].storage[week + 1] + basin.places[place].ranOff[week];
                    if (waterAt(basin, place, week) != takenAt(basin, place, week) + kept) {
                        wrong++;
                    }
                }
            }
            return wrong;
        }

        /** The water into a set of nodes, for the basin and the scenario that were loaded last. */
        int waterInto(boolean[] set) {
            int water = 0;
            for (int node = 0; node < NODES; node++) {
                if (set[node]) {
                    water += supply[node];
                }
            }
            for (int channel = 0; channel < CHANNELS; channel++) {
                for (int week = today; from[channel] != NONE && week + time[channel] < WEEKS; week++) {
                    boolean leadsIn = set[to[channel] * WEEKS + week + time[channel]];
                    if (leadsIn && !set[from[channel] * WEEKS + week]) {
                        water += room[channel * WEEKS + week];
                    }
                }
            }
            return water;
        }

        /** Takes in a basin, with nothing carried yet. */
        void load(Basin basin, int scenario) {
            today = basin.today;
            for (int arc = 0; arc < ARCS; arc++) {
                flow[arc] = 0;
                settled[arc] = false;
            }
            for (int i = 0; i < MAX_REACHES; i++) {
                Reach reach = basin.reaches[i];
                boolean isThere = i < basin.reachCount;
                setChannel(i, isThere ? reach.from : NONE, isThere ? reach.to : NONE, reach.time);
                System.arraycopy(reach.capacity, 0, room, i * WEEKS, WEEKS);
            }
            for (int place = 0; place < MAX_PLACES; place++) {
                int channel = MAX_REACHES + place;
                int end = place < basin.placeCount ? place : NONE;
                setChannel(channel, end, end, 1);
                Arrays.fill(room, channel * WEEKS, channel * WEEKS + WEEKS, basin.places[place].capacity);
            }
            for (int node = 0; node < NODES; node++) {
                supply[node] = supplyAt(basin, scenario, node / WEEKS, node % WEEKS);
                spare[node] = supply[node];
            }
            for (int right = 0; right < basin.rightCount; right++) {
                order[basin.rank(right)] = right;
            }
            clearDry();
        }

        private void setChannel(int channel, int start, int end, int weeks) {
            from[channel] = start;
            to[channel] = end;
            time[channel] = weeks;
        }

        /** What comes to a node whatever is sent and stored from now on. */
        private static int supplyAt(Basin basin, int scenario, int place, int week) {
            if (place >= basin.placeCount || week < basin.today) {
                return 0;
            }
            int water = basin.places[place].inflow[scenario * WEEKS + week];
            if (week == basin.today) {
                water += basin.places[place].storage[week];
            }
            for (int i = 0; i < basin.reachCount; i++) {
                Reach reach = basin.reaches[i];
                int then = week - reach.time;
                if (reach.to == place && then >= 0 && then < basin.today) {
                    water += reach.sent[then];
                }
            }
            return water;
        }

        /** Brings as much water as can come to a node, up to what is needed, and takes it there. */
        private int bring(int node, int needed) {
            int brought = 0;
            for (int i = 0; i < needed && brought < needed; i++) {
                int source = dry[node] ? NONE : findSpare(node);
                if (source == NONE) {
                    break;
                }
                brought += push(source, node, needed - brought);
            }
            return brought;
        }

        /** A node whose spare water can come to this one; NONE, with all reached nodes, if there is none. */
        private int findSpare(int node) {
            for (int i = 0; i < queued && i < NODES; i++) {
                reached[queue[i]] = false;
            }
            reached[node] = true;
            queue[0] = node;
            queued = 1;
            for (int i = 0; i < queued && i < NODES; i++) {
                int found = queue[i];
                if (spare[found] > 0) {
                    return found;
                }
                lookBack(found);
            }
            return NONE;
        }

        /** Reaches the nodes from which an arc has room, and those to which water could be sent less. */
        private void lookBack(int node) {
            int place = node / WEEKS;
            int week = node % WEEKS;
            for (int channel = 0; channel < CHANNELS; channel++) {
                int then = week - time[channel];
                if (to[channel] == place && then >= today) {
                    int arc = channel * WEEKS + then;
                    if (!settled[arc] && flow[arc] < room[arc]) {
                        reach(from[channel] * WEEKS + then, arc, node);
                    }
                }
                int later = week + time[channel];
                if (from[channel] == place && later < WEEKS) {
                    int arc = channel * WEEKS + week;
                    if (!settled[arc] && flow[arc] > 0) {
                        reach(to[channel] * WEEKS + later, arc, node);
                    }
                }
            }
        }

        private void reach(int node, int arc, int next) {
            if (!reached[node] && !dry[node] && queued < NODES) {
                reached[node] = true;
                via[node] = arc;
                toward[node] = next;
                queue[queued] = node;
                queued++;
            }
        }

        /** Moves spare water along the way that was found, and tells how much. */
        private int push(int source, int target, int most) {
            int units = spare[source] < most ? spare[source] : most;
            int node = source;
            for (int i = 0; i < NODES && node != target; i++) {
                int arc = via[node];
                int left = leadsFrom(arc, node) ? room[arc] - flow[arc] : flow[arc];
                units = left < units ? left : units;
                node = toward[node];
            }
            node = source;
            for (int i = 0; i < NODES && node != target; i++) {
                int arc = via[node];
                flow[arc] += leadsFrom(arc, node) ? units : -units;
                node = toward[node];
            }
            spare[source] -= units;
            return units;
        }

        private boolean leadsFrom(int arc, int node) {
            return from[arc / WEEKS] * WEEKS + arc % WEEKS == node;
        }
    }

    /**
     * The kinds of tokens, and the texts of those that stand for themselves. Their letters are kept in a
     * row, so that neither reading nor writing has to ask for a String.
     */
    private static final class Signs {
        static final int END = 0;
        static final int BAD = 1;
        static final int NUMBER = 2;
        static final int SEMICOLON = 3;
        static final int OPEN = 4;
        static final int CLOSE = 5;
        static final int COMMA = 6;
        static final int PLUS = 7;
        static final int MINUS = 8;
        static final int TIMES = 9;
        static final int OVER = 10;
        static final int LESS = 11;
        static final int MORE = 12;
        static final int EQUAL = 13;
        static final int BASIN = 14;
        static final int PLACE = 15;
        static final int REACH = 16;
        static final int WEEK = 17;
        static final int RIGHT = 18;
        static final int COINS = 19;
        static final int ASK = 20;
        static final int DECREE = 21;
        static final int INFLOW = 22;
        static final int IF = 23;
        static final int THEN = 24;
        static final int ELSE = 25;
        static final int FLOW = 26;
        static final int TOTAL = 27;
        static final int LEAST = 28;
        static final int MOST = 29;
        private static final int KINDS = 30;
        private static final int MAX_LETTERS = 100;

        private final char[] letters = new char[MAX_LETTERS];
        /** Where the text of each kind begins; that of the next one begins where it ends. */
        private final int[] starts = new int[KINDS + 1];

        Signs() {
            int count = 0;
            for (int sign = 0; sign < KINDS; sign++) {
                String word = word(sign);
                starts[sign] = count;
                for (int i = 0; i < word.length() && count < MAX_LETTERS; i++) {
                    letters[count] = word.charAt(i);
                    count++;
                }
            }
            starts[KINDS] = count;
        }

        int length(int sign) {
            return sign >= 0 && sign < KINDS ? starts[sign + 1] - starts[sign] : 0;
        }

        /** The index is below the length. */
        char letter(int sign, int index) {
            return letters[starts[sign] + index];
        }

        private static String word(int sign) {
            switch (sign) {
                case SEMICOLON: return ";";
                case OPEN: return "(";
                case CLOSE: return ")";
                case COMMA: return ",";
                case PLUS: return "+";
                case MINUS: return "-";
                case TIMES: return "*";
                case OVER: return "/";
                case LESS: return "<";
                case MORE: return ">";
                case EQUAL: return "=";
                case BASIN: return "basin";
                case PLACE: return "place";
                case REACH: return "reach";
                case WEEK: return "week";
                case RIGHT: return "right";
                case COINS: return "coins";
                case ASK: return "ask";
                case DECREE: return "decree";
                case INFLOW: return "inflow";
                case IF: return "if";
                case THEN: return "then";
                case ELSE: return "else";
                case FLOW: return "flow";
                case TOTAL: return "total";
                case LEAST: return "least";
                case MOST: return "most";
                default: return "";
            }
        }
    }

    /**
     * The buffer, and the reading of it. A token that does not fit stops the reading: from then on no
     * token fits, so that the place of the error stays.
     */
    private static final class Reader {
        private final Signs signs;
        private final char[] text = new char[MAX_TEXT];
        int length;
        int errorAt = NONE;
        private final int[] kinds = new int[MAX_TEXT + 1];
        private final int[] values = new int[MAX_TEXT + 1];
        private final int[] starts = new int[MAX_TEXT + 1];
        private int tokens;
        private int at;
        private boolean stopped;
        final int[] decree = new int[MAX_TOKENS];
        int decreeLength;

        Reader(Signs signs) {
            this.signs = signs;
        }

        void addText(String more) {
            for (int i = 0; i < more.length(); i++) {
                addByte(more.charAt(i));
            }
        }

        void addBytes(int word) {
            for (int shift = 24; shift >= 0; shift -= 8) {
                int one = (word >>> shift) & 255;
                if (one != 0) {
                    addByte((char) one);
                }
            }
        }

        private void addByte(char one) {
            if (length < MAX_TEXT) {
                text[length] = one;
                length++;
            }
        }

        /** Reads the buffer as a basin and empties it; false if the text has an error. */
        boolean takeBasin(Basin basin) {
            split();
            basin.reset();
            take(Signs.BASIN);
            take(Signs.SEMICOLON);
            for (int i = 0; i < MAX_TEXT && !stopped && kind() != Signs.END; i++) {
                statement(basin);
                take(Signs.SEMICOLON);
            }
            return finish();
        }

        /** Reads the buffer as a decree, or as none, and empties it; false if the text has an error. */
        boolean takeDecree() {
            split();
            decreeLength = 0;
            if (kind() != Signs.END) {
                expression(0);
            }
            return finish();
        }

        private boolean finish() {
            take(Signs.END);
            errorAt = stopped ? starts[at] : NONE;
            length = 0;
            return !stopped;
        }

        // -- tokens

        private void split() {
            tokens = 0;
            at = 0;
            stopped = false;
            for (int index = 0; index < length; index++) {
                if (startsToken(index)) {
                    addToken(index);
                }
            }
            kinds[tokens] = Signs.END;
            starts[tokens] = length;
        }

        private boolean startsToken(int index) {
            char one = text[index];
            char before = index > 0 ? text[index - 1] : ' ';
            boolean goesOn = isLetter(one) && isLetter(before) || isDigit(one) && isDigit(before);
            return one != ' ' && !goesOn;
        }

        private void addToken(int start) {
            int end = start + 1;
            while (end < length && !startsToken(end) && text[end] != ' ') {
                end++;
            }
            starts[tokens] = start;
            values[tokens] = 0;
            kinds[tokens] = Signs.BAD;
            if (!isDigit(text[start])) {
                kinds[tokens] = signAt(start, end);
            } else if (end - start <= MAX_DIGITS) {
                kinds[tokens] = Signs.NUMBER;
                for (int i = start; i < end; i++) {
                    values[tokens] = values[tokens] * 10 + text[i] - '0';
                }
            }
            tokens++;
        }

        private int signAt(int start, int end) {
            for (int sign = Signs.SEMICOLON; sign <= Signs.MOST; sign++) {
                if (isText(start, end, sign)) {
                    return sign;
                }
            }
            return Signs.BAD;
        }

        private boolean isText(int start, int end, int sign) {
            if (signs.length(sign) != end - start) {
                return false;
            }
            for (int i = start; i < end; i++) {
                if (text[i] != signs.letter(sign, i - start)) {
                    return false;
                }
            }
            return true;
        }

        private static boolean isLetter(char one) {
            return one >= 'a' && one <= 'z';
        }

        private static boolean isDigit(char one) {
            return one >= '0' && one <= '9';
        }

        private int kind() {
            return stopped ? Signs.BAD : kinds[at];
        }

        private void step() {
            if (at < tokens) {
                at++;
            }
        }

        private void take(int sign) {
            if (kind() == sign) {
                step();
            } else {
                stopped = true;
            }
        }

        /** The number that stands here; NONE, and the reading stops, if none in this range does. */
        private int number(int low, int high) {
            if (kind() != Signs.NUMBER || values[at] < low || values[at] > high) {
                stopped = true;
                return NONE;
            }
            int value = values[at];
            step();
            return value;
        }

        // -- statements

        private void statement(Basin basin) {
            int sign = kind();
            boolean fits = sign == Signs.PLACE && basin.placeCount < MAX_PLACES
                || sign == Signs.REACH && basin.reachCount < MAX_REACHES
                || sign == Signs.RIGHT && basin.rightCount < MAX_RIGHTS
                || sign == Signs.INFLOW;
            if (!fits) {
                stopped = true;
                return;
            }
            step();
            if (sign == Signs.PLACE) {
                placeStatement(basin);
            } else if (sign == Signs.REACH) {
                reachStatement(basin);
            } else if (sign == Signs.RIGHT) {
                rightStatement(basin);
            } else {
                inflowStatement(basin);
            }
        }

        private void placeStatement(Basin basin) {
            int capacity = number(0, MAX_STORED);
            int storage = number(0, capacity);
            if (!stopped) {
                basin.joinPlace(capacity, storage);
            }
        }

        private void reachStatement(Basin basin) {
            int from = number(0, basin.placeCount - 1);
            if (kind() == Signs.NUMBER && values[at] == from) {
                stopped = true;
            }
            int to = number(0, basin.placeCount - 1);
            int capacity = number(0, MAX_SENT);
            int time = number(0, MAX_TIME);
            if (stopped) {
                return;
            }
            Reach reach = basin.reaches[basin.reachCount];
            basin.joinReach(from, to, capacity, time);
            for (int i = 0; i < MAX_TEXT && kind() == Signs.WEEK; i++) {
                step();
                int week = number(0, LAST_WEEK);
                int then = number(0, MAX_SENT);
                if (!stopped) {
                    reach.capacity[week] = then;
                }
            }
        }

        private void rightStatement(Basin basin) {
            int place = number(0, basin.placeCount - 1);
            int year = number(MIN_YEAR, MAX_YEAR);
            int price = number(0, MAX_PRICE);
            if (stopped) {
                return;
            }
            Right right = basin.rights[basin.rightCount];
            basin.joinRight(place, year, price);
            for (int i = 0; i < MAX_TEXT; i++) {
                int sign = kind();
                if (sign != Signs.COINS && sign != Signs.ASK && sign != Signs.DECREE) {
                    break;
                }
                step();
                if (sign == Signs.COINS) {
                    right.balance = number(0, MAX_COINS);
                } else if (sign == Signs.ASK) {
                    askPart(right);
                } else {
                    decreeLength = 0;
                    expression(0);
                    right.decide(decree, decreeLength);
                }
            }
        }

        private void askPart(Right right) {
            int first = number(0, LAST_WEEK);
            int last = number(first, LAST_WEEK);
            int amount = number(0, MAX_ASK);
            if (!stopped) {
                right.askFor(first, last, amount);
            }
        }

        private void inflowStatement(Basin basin) {
            int scenario = number(0, SCENARIOS - 1);
            int place = number(0, basin.placeCount - 1);
            for (int week = 0; week < WEEKS && (week == 0 || kind() == Signs.NUMBER); week++) {
                int amount = number(0, MAX_INFLOW);
                if (!stopped) {
                    basin.places[place].inflow[scenario * WEEKS + week] = amount;
                }
            }
        }

        // -- decrees

        private void keep(int sign) {
            if (kind() != sign || decreeLength >= MAX_TOKENS) {
                stopped = true;
                return;
            }
            decree[decreeLength] = sign == Signs.NUMBER ? values[at] : -sign;
            decreeLength++;
            step();
        }

        private void keepOpening(int sign, int level) {
            if (level >= MAX_LEVELS) {
                stopped = true;
            }
            keep(sign);
        }

        /** The level is the number of those that are open ahead of the expression. */
        private void expression(int level) {
            if (level > MAX_LEVELS) {
                stopped = true;
                return;
            }
            if (kind() != Signs.IF) {
                sum(level);
                return;
            }
            keepOpening(Signs.IF, level);
            sum(level + 1);
            int comparison = kind();
            boolean compares = comparison == Signs.LESS || comparison == Signs.MORE;
            keep(compares ? comparison : Signs.EQUAL);
            sum(level + 1);
            keep(Signs.THEN);
            expression(level + 1);
            keep(Signs.ELSE);
            expression(level + 1);
        }

        private void sum(int level) {
            product(level);
            for (int i = 0; i < MAX_TOKENS && (kind() == Signs.PLUS || kind() == Signs.MINUS); i++) {
                keep(kind());
                product(level);
            }
        }

        private void product(int level) {
            factor(level);
            for (int i = 0; i < MAX_TOKENS && (kind() == Signs.TIMES || kind() == Signs.OVER); i++) {
                keep(kind());
                factor(level);
            }
        }

        private void factor(int level) {
            int sign = kind();
            if (sign == Signs.NUMBER || sign == Signs.WEEK) {
                keep(sign);
                return;
            }
            boolean takesTwo = sign == Signs.LEAST || sign == Signs.MOST;
            if (takesTwo || sign == Signs.FLOW || sign == Signs.TOTAL) {
                keep(sign);
            }
            keepOpening(Signs.OPEN, level);
            if (stopped) {
                return;
            }
            expression(level + 1);
            if (takesTwo) {
                keep(Signs.COMMA);
                expression(level + 1);
            }
            keep(Signs.CLOSE);
        }
    }

    /** Writes a basin as a text. */
    private static final class Writer {
        private final Signs signs;
        final char[] text = new char[MAX_WRITTEN];
        int length;

        Writer(Signs signs) {
            this.signs = signs;
        }

        int write(Basin basin) {
            length = 0;
            putWord(Signs.BASIN);
            putChar(';');
            for (int place = 0; place < basin.placeCount; place++) {
                putWord(Signs.PLACE);
                putNumber(basin.places[place].capacity);
                putNumber(basin.places[place].storage[basin.today]);
                putChar(';');
            }
            for (int reach = 0; reach < basin.reachCount; reach++) {
                writeReach(basin.reaches[reach]);
            }
            for (int right = 0; right < basin.rightCount; right++) {
                writeRight(basin.rights[right]);
            }
            for (int scenario = 0; scenario < SCENARIOS; scenario++) {
                for (int place = 0; place < basin.placeCount; place++) {
                    writeInflow(basin.places[place], scenario, place);
                }
            }
            return length;
        }

        private void writeReach(Reach reach) {
            putWord(Signs.REACH);
            putNumber(reach.from);
            putNumber(reach.to);
            putNumber(reach.capacity[0]);
            putNumber(reach.time);
            for (int week = 1; week < WEEKS; week++) {
                if (reach.capacity[week] != reach.capacity[0]) {
                    putSign(Signs.WEEK);
                    putNumber(week);
                    putNumber(reach.capacity[week]);
                }
            }
            putChar(';');
        }

        private void writeRight(Right right) {
            putWord(Signs.RIGHT);
            putNumber(right.place);
            putNumber(right.year);
            putNumber(right.price);
            if (right.balance > 0) {
                putSign(Signs.COINS);
                putNumber(right.balance < MAX_COINS ? right.balance : MAX_COINS);
            }
            writeAsks(right);
            if (right.decreeLength > 0) {
                putSign(Signs.DECREE);
            }
            for (int i = 0; i < right.decreeLength && i < MAX_TOKENS; i++) {
                if (right.decree[i] < 0) {
                    putSign(-right.decree[i]);
                } else {
                    putNumber(right.decree[i]);
                }
            }
            putChar(';');
        }

        private void writeAsks(Right right) {
            int first = 0;
            for (int week = 0; week < WEEKS; week++) {
                boolean ends = week == LAST_WEEK || right.ask[week + 1] != right.ask[week];
                if (ends && right.ask[week] > 0) {
                    putSign(Signs.ASK);
                    putNumber(first);
                    putNumber(week);
                    putNumber(right.ask[week]);
                }
                if (ends) {
                    first = week + 1;
                }
            }
        }

        private void writeInflow(Place place, int scenario, int number) {
            int sum = 0;
            for (int week = 0; week < WEEKS; week++) {
                sum += place.inflow[scenario * WEEKS + week];
            }
            if (sum == 0) {
                return;
            }
            putWord(Signs.INFLOW);
            putNumber(scenario);
            putNumber(number);
            for (int week = 0; week < WEEKS; week++) {
                putNumber(place.inflow[scenario * WEEKS + week]);
            }
            putChar(';');
        }

        private void putSign(int sign) {
            putChar(' ');
            putWord(sign);
        }

        /** Numbers have at most four digits here. */
        private void putNumber(int number) {
            putChar(' ');
            boolean started = false;
            for (int unit = 1000; unit > 0; unit /= 10) {
                int digit = number / unit % 10;
                started = started || digit > 0 || unit == 1;
                if (started) {
                    putChar((char) ('0' + digit));
                }
            }
        }

        private void putWord(int sign) {
            for (int i = 0; i < signs.length(sign); i++) {
                putChar(signs.letter(sign, i));
            }
        }

        private void putChar(char one) {
            if (length < MAX_WRITTEN) {
                text[length] = one;
                length++;
            }
        }
    }
}
