import java.util.function.IntFunction;
import java.util.function.Supplier;

/**
 * The promises one by one: for each parameter the least and the greatest value that is allowed and the first
 * one beside each of them, and for each answer the least and the greatest one.
 */
public final class EdgesTest extends Checks {
    private static final String SIX = "basin;" + "place 60 60;".repeat(6);
    private static final String NINE = SIX + "reach 5 4 50 2;".repeat(9);
    private static final String TEN = NINE + "right 5 1900 1 ask 0 7 20 decree 1+week;".repeat(10);

    private interface Use {
        Object of(RiverSeniority x, int value);
    }

    public static void main(String[] args) {
        texts();
        places();
        reaches();
        capacities();
        rights();
        asks();
        abandoned();
        coins();
        leasedAmounts();
        leasedWeeks();
        inflows();
        gaugesAndMeasures();
        branches();
        questionsOfReachesAndPlaces();
        questionsOfRights();
        questionsOfNodes();
        whatWouldBe();
        whatWouldBeOfLeases();
        counts();
        answersOfRights();
        answersOfWater();
        helped();
        closures();
        harms();
        greatestLeases();
        shares();
        errors();
        finish();
    }

    /** Every value in a range is taken, and the first ones beside it are refused, as are the outermost ints. */
    private static void range(String what, int low, int high, Class<?> refusal, IntFunction<Object> call) {
        for (int value = low; value <= high; value++) {
            int taken = value;
            Object got = answer(() -> call.apply(taken));
            due(what + " " + value + " is taken", got instanceof Class ? got : "taken", "taken");
        }
        for (int beside : new int[] {low - 1, high + 1, LOW, HIGH}) {
            refused(what + " " + beside, refusal, () -> call.apply(beside));
        }
    }

    /** The same for a change, with an object of its own for each value. */
    private static void change(String what, int low, int high, Class<?> refusal, Supplier<RiverSeniority> made, Use call) {
        range(what, low, high, refusal, value -> call.of(made.get(), value));
    }

    private static RiverSeniority ten() {
        return office(TEN);
    }

    private static RiverSeniority tenInWeek(int week) {
        return passed(office(TEN.replace("1900 1", "1900 0")), week);
    }

    // ---------------------------------------------------------------- changes

    private static void texts() {
        about("promise 2: append");
        RiverSeniority x = new RiverSeniority();
        due("nothing", x.append(0, 0, 0, 0, 0), 0);
        due("one byte", x.append(0, 0, 0, 0, 1), 1);
        due("one byte", x.append(LOW, 0, 0, 0, 0), 2);
        due("20 bytes", x.append(-1, -1, -1, -1, -1), 22);
        due("zeros in between are left out", x.append(0x01000100, 0x00010001, 0x00010100, 0x01000001, 0x00000000), 30);
        fullBuffers();
        about("promise 3: clearText");
        due("all of them", x.clearText(), 30);
        due("none is left", x.clearText(), 0);
        due("an append starts anew", x.append(1, 0, 0, 0, 0), 1);
        about("promise 4: readBasin returns the number of rights");
        x.clearText();
        say(x, "basin;");
        due("0", x.readBasin(), 0);
        RiverSeniority y = new RiverSeniority();
        say(y, TEN);
        due("10", y.readBasin(), 10);
        about("promise 7: writtenAt");
        for (int i = 0; i < 18; i++) {
            y.setInflow(i / 6, i % 6, 7, 10);
        }
        int length = y.writeBasin();
        due("more than 900 bytes may be written", length > 900, true);
        due("the first byte", y.writtenAt(0), (int) 'b');
        due("the last byte", y.writtenAt(length - 1), (int) ';');
        for (int beside : new int[] {-1, length, LOW, HIGH}) {
            refused("byte " + beside, INDEX, () -> y.writtenAt(beside));
        }
    }

    /** Each byte that is not 0 counts, whatever its bits are and wherever it stands. */
    private static void fullBuffers() {
        RiverSeniority x = new RiverSeniority();
        say(x, " ".repeat(899));
        for (int bit = 0; bit < 32; bit++) {
            int one = 1 << bit;
            int two = one | 1 << (bit + 8) % 32;
            refused("a, bytes 900 and 901", STATE, () -> x.append(two, 0, 0, 0, 0));
            refused("b, bytes 900 and 901", STATE, () -> x.append(0, two, 0, 0, 0));
            refused("c, bytes 900 and 901", STATE, () -> x.append(0, 0, two, 0, 0));
            refused("d, bytes 900 and 901", STATE, () -> x.append(0, 0, 0, two, 0));
            refused("e, bytes 900 and 901", STATE, () -> x.append(0, 0, 0, 0, two));
            refused("bytes of two parameters", STATE, () -> x.append(one, 0, 0, 0, one));
        }
        for (int bit = 0; bit < 32; bit++) {
            RiverSeniority y = new RiverSeniority();
            say(y, " ".repeat(899));
            due("byte 900", y.append(0, 0, 1 << bit, 0, 0), 900);
            int one = 1 << bit;
            refused("byte 901", STATE, () -> y.append(0, one, 0, 0, 0));
        }
    }

    private static void places() {
        about("promise 8: addPlace");
        Supplier<RiverSeniority> none = () -> office("basin;");
        change("capacity", 0, 60, ARGUMENT, none, (x, value) -> x.addPlace(value, 0));
        change("storage at 60", 0, 60, ARGUMENT, none, (x, value) -> x.addPlace(60, value));
        change("storage at 1", 0, 1, ARGUMENT, none, (x, value) -> x.addPlace(1, value));
        change("storage at 0", 0, 0, ARGUMENT, none, (x, value) -> x.addPlace(0, value));
        RiverSeniority x = office("basin;");
        due("the first", x.addPlace(60, 59), 0);
        due("its storage", x.storageAt(0, 0), 59);
        due("its capacity", answer(() -> x.measure(0, 61)), ARGUMENT);
        due("its capacity", x.measure(0, 60), 59);
        for (int i = 1; i < 6; i++) {
            due("the next", x.addPlace(0, 0), i);
        }
        refused("the 7th", STATE, () -> x.addPlace(0, 0));
    }

    private static void reaches() {
        about("promise 9: addReach");
        Supplier<RiverSeniority> six = () -> office(SIX);
        change("from", 0, 5, INDEX, six, (x, value) -> x.addReach(value, value == 0 ? 1 : 0, 1, 1));
        change("to", 0, 5, INDEX, six, (x, value) -> x.addReach(value == 0 ? 1 : 0, value, 1, 1));
        change("capacity", 0, 50, ARGUMENT, six, (x, value) -> x.addReach(5, 0, value, 1));
        change("time", 0, 2, ARGUMENT, six, (x, value) -> x.addReach(0, 5, 1, value));
        RiverSeniority x = office(SIX);
        for (int i = 0; i < 9; i++) {
            due("addReach", x.addReach(0, 5, 50, 0), i);
        }
        refused("the 10th", STATE, () -> x.addReach(0, 5, 50, 0));
        for (int week = 0; week < 8; week++) {
            due("the same capacity in all weeks", x.capacityAt(8, week), 50);
        }
        for (int place = 0; place < 6; place++) {
            int same = place;
            refused("from and to " + place, ARGUMENT, () -> office(SIX).addReach(same, same, 1, 1));
        }
    }

    private static void capacities() {
        about("promise 10: setCapacity");
        change("reach", 0, 8, INDEX, () -> office(NINE), (x, value) -> x.setCapacity(value, 0, 1));
        change("week", 0, 7, ARGUMENT, () -> office(NINE), (x, value) -> x.setCapacity(8, value, 1));
        change("capacity", 0, 50, ARGUMENT, () -> office(NINE), (x, value) -> x.setCapacity(8, 7, value));
        for (int today = 1; today < 8; today++) {
            int week = today;
            RiverSeniority x = passed(office(NINE), week);
            refused("the week ahead of " + week, STATE, () -> x.setCapacity(0, week - 1, 1));
            due("the present week " + week, x.setCapacity(0, week, 1), 50);
        }
        RiverSeniority x = office(NINE);
        for (int value : new int[] {0, 50, 1, 49}) {
            int before = x.capacityAt(3, 4);
            due("the capacity before", x.setCapacity(3, 4, value), before);
            due("capacityAt", x.capacityAt(3, 4), value);
        }
        due("the weeks beside it", x.capacityAt(3, 3) + x.capacityAt(3, 5), 100);
        due("the reaches beside it", x.capacityAt(2, 4) + x.capacityAt(4, 4), 100);
        about("0 closes it");
        RiverSeniority y = office("basin;place 9 9;place 0 0;reach 0 1 1 0;right 1 1900 0 ask 0 1 1;");
        due("open", y.total(0), 2);
        y.setCapacity(0, 0, 0);
        due("closed in week 0", amounts(y, 0, 0), "0 1 0 0 0 0 0 0");
    }

    private static void rights() {
        about("promise 11: addRight");
        Supplier<RiverSeniority> six = () -> office(SIX);
        change("place", 0, 5, INDEX, six, (x, value) -> x.addRight(value, 1900, 1));
        change("year", 1800, 2099, ARGUMENT, six, (x, value) -> x.addRight(5, value, 1));
        change("price", 0, 9, ARGUMENT, six, (x, value) -> x.addRight(0, 2099, value));
        RiverSeniority x = office(SIX);
        for (int i = 0; i < 10; i++) {
            due("addRight", x.addRight(5, 1800, 9), i);
        }
        refused("the 11th", STATE, () -> x.addRight(0, 1800, 0));
    }

    private static void asks() {
        about("promise 12: setAsk");
        change("right", 0, 9, INDEX, EdgesTest::ten, (x, value) -> x.setAsk(value, 0, 0, 1));
        change("first", 0, 7, ARGUMENT, EdgesTest::ten, (x, value) -> x.setAsk(9, value, 7, 1));
        change("last", 3, 7, ARGUMENT, EdgesTest::ten, (x, value) -> x.setAsk(9, 3, value, 1));
        change("the last week alone", 7, 7, ARGUMENT, EdgesTest::ten, (x, value) -> x.setAsk(9, 7, value, 1));
        change("amount", 0, 20, ARGUMENT, EdgesTest::ten, (x, value) -> x.setAsk(9, 0, 7, value));
        RiverSeniority x = office("basin;place 60 60;right 0 1900 0;");
        due("none is another one", x.setAsk(0, 0, 7, 0), 0);
        due("one week", x.setAsk(0, 7, 7, 20), 1);
        due("the first week", x.setAsk(0, 0, 0, 20), 1);
        due("six weeks", x.setAsk(0, 0, 7, 20), 6);
        due("all weeks", x.setAsk(0, 0, 7, 19), 8);
        due("a right asks from first to last", x.setAsk(0, 2, 3, 1), 2);
        due("asks", asks(x, 0, 0), "19 19 1 1 19 19 19 19");
        about("promise 12: not what the right asks for");
        decree(x, 0, "0");
        due("asks for 0", x.setAsk(0, 0, 7, 0), 8);
        due("the ask was 0", x.setAsk(0, 0, 7, 0), 0);
        about("promise 12: the first week is not over");
        for (int today = 1; today < 8; today++) {
            int week = today;
            RiverSeniority y = passed(office("basin;place 60 60;right 0 1900 0;"), week);
            refused("the week ahead of " + week, STATE, () -> y.setAsk(0, week - 1, 7, 1));
            due("from the present week on", y.setAsk(0, week, 7, 1), 8 - week);
        }
        RiverSeniority closed = passed(office("basin;place 60 60;right 0 1900 9 ask 0 0 9;"), 1);
        due("a closed right may ask", closed.setAsk(0, 1, 1, 5), 1);
    }

    private static void abandoned() {
        about("promise 14: abandon");
        change("right", 0, 9, INDEX, EdgesTest::ten, (x, value) -> x.abandon(value));
        RiverSeniority x = office("basin;place 60 60;right 0 1900 0 ask 0 7 20;right 0 1910 0 ask 0 7 1;");
        due("what it would have got", x.abandon(0), 60);
        due("nothing any more", x.total(0), 0);
        due("the other one gets it", x.abandon(1), 8);
        refused("for good", STATE, () -> x.abandon(1));
        RiverSeniority y = passed(office("basin;place 60 60;right 0 1900 0 ask 0 7 5 decree 4;"), 7);
        due("in the last week", y.abandon(0), 4);
        due("the weeks that are over stay", y.total(0), 28);
        due("its asks and its decree stay", written(y).endsWith("right 0 1900 0 ask 0 7 5 decree 4;"), true);
        due("the value of the decree", y.decreeValue(0, 0, 0), 4);
        RiverSeniority over = over();
        due("when the year is over", over.abandon(3), 0);
        RiverSeniority closed = passed(office("basin;place 60 60;right 0 1900 9 ask 0 7 9;"), 1);
        due("a closed right", closed.abandon(0), 0);
    }

    private static void coins() {
        about("promise 15: fund");
        change("right", 0, 9, INDEX, EdgesTest::ten, (x, value) -> x.fund(value, 1));
        change("coins", 1, 1000, ARGUMENT, () -> office("basin;place 0 0;right 0 1900 0;"), (x, value) -> x.fund(0, value));
        RiverSeniority x = office("basin;place 60 60;right 0 1900 9 coins 1000 ask 0 0 20;");
        due("the balance afterwards", x.fund(0, 1), 1001);
        due("and again", x.fund(0, 1000), 2001);
        due("balance", x.balance(0), 2001);
        x.abandon(0);
        due("an abandoned right", x.fund(0, 9), 2010);
        RiverSeniority y = passed(office("basin;place 60 60;right 0 1900 9 ask 0 0 20;"), 1);
        due("from below 0", y.fund(0, 179), -1);
        due("to 0", y.fund(0, 1), 0);
        due("when the year is over", over().fund(0, 1000) > 0, true);
    }

    private static void leasedAmounts() {
        Supplier<RiverSeniority> one = () -> office(SIX + "right 0 1900 0 ask 0 7 20;");
        about("promise 16: lease");
        change("lessor", 0, 8, INDEX, () -> office(SIX + "right 0 1900 0 ask 0 7 20;".repeat(9)), (x, value) -> x.lease(value, 0, 1, 0, 0));
        change("place", 0, 5, INDEX, one, (x, value) -> x.lease(0, value, 1, 0, 0));
        change("amount", 1, 20, ARGUMENT, one, (x, value) -> x.lease(0, 5, value, 0, 7));
        change("first", 0, 7, ARGUMENT, one, (x, value) -> x.lease(0, 5, 1, value, 7));
        change("last", 2, 7, ARGUMENT, one, (x, value) -> x.lease(0, 5, 1, 2, value));
        about("promise 54: injuredRight");
        change("lessor", 0, 8, INDEX, () -> office(SIX + "right 0 1900 0 ask 0 7 20;".repeat(9)), (x, value) -> x.injuredRight(value, 0, 1, 0, 0));
        change("place", 0, 5, INDEX, one, (x, value) -> x.injuredRight(0, value, 1, 0, 0));
        change("amount", 1, 20, ARGUMENT, one, (x, value) -> x.injuredRight(0, 5, value, 0, 7));
        change("first", 0, 7, ARGUMENT, one, (x, value) -> x.injuredRight(0, 5, 1, value, 7));
        change("last", 2, 7, ARGUMENT, one, (x, value) -> x.injuredRight(0, 5, 1, 2, value));
        about("promise 16: the ask of the lessor, whatever its decree, is not less than the amount in one of these weeks");
        RiverSeniority x = office(SIX + "right 0 1900 0 ask 0 7 5 ask 3 3 4 decree 0;");
        refused("5 in week 3", STATE, () -> x.lease(0, 0, 5, 0, 3));
        refused("5 from week 3 on", STATE, () -> x.lease(0, 0, 5, 3, 4));
        refused("5 in all weeks", STATE, () -> x.injuredRight(0, 0, 5, 0, 7));
        due("5 ahead of week 3", x.injuredRight(0, 0, 5, 0, 2), NONE);
        due("4 in week 3", x.lease(0, 0, 4, 2, 4), 1);
        refused("none is left in week 3", STATE, () -> x.lease(0, 0, 1, 3, 3));
        due("one is left in week 2", x.lease(0, 0, 1, 2, 2), 2);
        about("promise 16: there is room for a 10th right, but not for an 11th");
        RiverSeniority y = office(SIX + "right 0 1900 0 ask 0 7 20;".repeat(9));
        due("the 10th", y.lease(8, 0, 1, 0, 0), 9);
        refused("the 11th", STATE, () -> y.lease(8, 0, 1, 0, 0));
        refused("injured by the 11th", STATE, () -> y.injuredRight(8, 0, 1, 0, 0));
    }

    private static void leasedWeeks() {
        about("promises 16, 54 and 55: the first week is not over");
        for (int today = 1; today < 8; today++) {
            int week = today;
            RiverSeniority x = passed(office(SIX + "right 0 1900 0 ask 0 7 2;"), week);
            refused("lease ahead of " + week, STATE, () -> x.lease(0, 1, 1, week - 1, 7));
            refused("injured ahead of " + week, STATE, () -> x.injuredRight(0, 1, 1, week - 1, 7));
            refused("greatest ahead of " + week, STATE, () -> x.greatestLease(0, 1, week - 1, 7));
            due("injured from " + week, x.injuredRight(0, 1, 2, week, 7), NONE);
            due("greatest from " + week, x.greatestLease(0, 1, week, 7), 2);
            due("lease from " + week, x.lease(0, 1, 2, week, 7), 1);
        }
        about("promises 16, 54 and 55: a lessor with a balance of 0 is not closed, with -1 it is");
        RiverSeniority zero = passed(office("basin;place 60 60;right 0 1900 1 coins 5 ask 0 7 5;"), 1);
        due("greatest with 0", zero.greatestLease(0, 0, 1, 1), 5);
        due("injured with 0", zero.injuredRight(0, 0, 1, 1, 1), NONE);
        due("lease with 0", zero.lease(0, 0, 1, 1, 1), 1);
        RiverSeniority debt = passed(office("basin;place 60 60;right 0 1900 1 coins 4 ask 0 7 5;"), 1);
        due("greatest with -1", debt.greatestLease(0, 0, 1, 1), 0);
        refused("injured with -1", STATE, () -> debt.injuredRight(0, 0, 1, 1, 1));
        refused("lease with -1", STATE, () -> debt.lease(0, 0, 1, 1, 1));
    }

    private static void inflows() {
        about("promise 17: setInflow");
        change("scenario", 0, 2, INDEX, () -> office(SIX), (x, value) -> x.setInflow(value, 5, 0, 1));
        change("place", 0, 5, INDEX, () -> office(SIX), (x, value) -> x.setInflow(2, value, 0, 1));
        change("week", 0, 7, ARGUMENT, () -> office(SIX), (x, value) -> x.setInflow(2, 5, value, 1));
        change("amount", 0, 40, ARGUMENT, () -> office(SIX), (x, value) -> x.setInflow(2, 5, 7, value));
        RiverSeniority x = office(SIX);
        due("the inflow before", x.setInflow(2, 5, 7, 40), 0);
        due("the inflow before", x.setInflow(2, 5, 7, 39), 40);
        due("inflowAt", x.inflowAt(2, 5, 7), 39);
        due("beside it", x.inflowAt(2, 5, 6) + x.inflowAt(1, 5, 7) + x.inflowAt(2, 4, 7), 0);
        for (int today = 1; today < 8; today++) {
            int week = today;
            RiverSeniority y = passed(office("basin;place 0 0;"), week);
            refused("the week ahead of " + week, STATE, () -> y.setInflow(0, 0, week - 1, 1));
            due("the present week " + week, y.setInflow(0, 0, week, 1), 0);
        }
    }

    private static void gaugesAndMeasures() {
        about("promise 18: gauge");
        change("place", 0, 5, INDEX, () -> office(SIX), (x, value) -> x.gauge(value, 1));
        change("amount", 0, 40, ARGUMENT, () -> office(SIX), (x, value) -> x.gauge(5, value));
        RiverSeniority x = office("basin;place 0 0;inflow 0 0 1 2 3 4 5 6 7 8;inflow 1 0 9 9 9 9 9 9 9 9;");
        for (int week = 0; week < 8; week++) {
            due("the inflow by scenario 0 before", x.gauge(0, 20 + week), week + 1);
            for (int scenario = 0; scenario < 3; scenario++) {
                due("in all three scenarios", x.inflowAt(scenario, 0, week), 20 + week);
            }
            if (week < 7) {
                due("the next week is as it was", x.inflowAt(1, 0, week + 1), 9);
            }
            x.passWeek();
        }
        refused("the year is over", STATE, () -> x.gauge(0, 0));
        due("the first week is as it was told", x.inflowAt(2, 0, 0), 20);
        about("promise 19: measure");
        change("place", 0, 5, INDEX, () -> office(SIX), (y, value) -> y.measure(value, 1));
        change("storage", 0, 60, ARGUMENT, () -> office(SIX), (y, value) -> y.measure(5, value));
        change("storage at 1", 0, 1, ARGUMENT, () -> office("basin;place 1 0;"), (y, value) -> y.measure(0, value));
        change("storage at 0", 0, 0, ARGUMENT, () -> office("basin;place 0 0;"), (y, value) -> y.measure(0, value));
        RiverSeniority z = office("basin;place 9 4;");
        for (int week = 0; week < 8; week++) {
            due("the present storage before", z.measure(0, week), week == 0 ? 4 : week - 1);
            due("the storage", z.storageAt(0, week), week);
            z.passWeek();
            due("what it was as the week passed", z.storageAt(0, week), week);
        }
        refused("the year is over", STATE, () -> z.measure(0, 0));
        due("the storage at the end", z.storageAt(0, 8), 7);
    }

    private static void branches() {
        about("promises 23 to 25: branches");
        RiverSeniority x = new RiverSeniority();
        RiverSeniority fresh = new RiverSeniority();
        fresh.createBranch();
        due("a new object and its copy", fresh.difference(1), 0);
        range("switchBranch", 0, 0, INDEX, x::switchBranch);
        range("difference", 0, 0, INDEX, x::difference);
        due("createBranch", x.createBranch(), 1);
        range("switchBranch", 0, 1, INDEX, x::switchBranch);
        due("the one before", x.switchBranch(0), 1);
        due("createBranch", x.createBranch(), 2);
        range("switchBranch", 0, 2, INDEX, x::switchBranch);
        range("difference", 0, 2, INDEX, x::difference);
        refused("a 4th branch", STATE, () -> x.createBranch());
        due("the one before", x.switchBranch(2), 2);
        due("a greatest difference", greatestDifference(), 80);
    }

    private static int greatestDifference() {
        RiverSeniority x = office(SIX + "right 0 1900 0 ask 0 7 2;".repeat(10) + "inflow 0 0 20 20 20 20 20 20 20 20;");
        x.createBranch();
        say(x, "basin;");
        x.readBasin();
        return x.difference(1);
    }

    // ---------------------------------------------------------------- parameters of questions

    private static void questionsOfReachesAndPlaces() {
        RiverSeniority x = ten();
        about("promise 30: capacityAt");
        range("reach", 0, 8, INDEX, value -> x.capacityAt(value, 7));
        range("week", 0, 7, ARGUMENT, value -> x.capacityAt(8, value));
        about("promise 31: inflowAt");
        range("scenario", 0, 2, INDEX, value -> x.inflowAt(value, 5, 7));
        range("place", 0, 5, INDEX, value -> x.inflowAt(2, value, 7));
        range("week", 0, 7, ARGUMENT, value -> x.inflowAt(2, 5, value));
        about("promise 40: sent");
        range("reach", 0, 8, INDEX, value -> x.sent(value, 7));
        range("week", 0, 7, ARGUMENT, value -> x.sent(8, value));
        about("promise 41: storageAt");
        range("place", 0, 5, INDEX, value -> x.storageAt(value, 8));
        range("week", 0, 8, ARGUMENT, value -> x.storageAt(5, value));
        about("promise 42: runOff");
        range("place", 0, 5, INDEX, value -> x.runOff(value, 7));
        range("week", 0, 7, ARGUMENT, value -> x.runOff(5, value));
    }

    private static void questionsOfRights() {
        RiverSeniority x = ten();
        about("promise 32: askedAt");
        range("scenario", 0, 2, INDEX, value -> x.askedAt(value, 9, 7));
        range("right", 0, 9, INDEX, value -> x.askedAt(2, value, 7));
        range("week", 0, 7, ARGUMENT, value -> x.askedAt(2, 9, value));
        about("promise 33: decreeValue");
        range("scenario", 0, 2, INDEX, value -> x.decreeValue(value, 9, 7));
        range("right", 0, 9, INDEX, value -> x.decreeValue(2, value, 7));
        range("week", 0, 7, ARGUMENT, value -> x.decreeValue(2, 9, value));
        RiverSeniority late = tenInWeek(8);
        range("week that is over", 0, 7, ARGUMENT, value -> late.decreeValue(0, 0, value));
        about("promises 34 to 36 and 38: rankOf, lessorOf, balance, total");
        range("right of rankOf", 0, 9, INDEX, x::rankOf);
        range("right of lessorOf", 0, 9, INDEX, x::lessorOf);
        range("right of balance", 0, 9, INDEX, x::balance);
        range("right of total", 0, 9, INDEX, x::total);
        about("promise 37: amountAt");
        RiverSeniority y = ten();
        range("scenario", 0, 2, INDEX, value -> y.amountAt(value, 9, 7));
        range("right", 0, 9, INDEX, value -> y.amountAt(2, value, 7));
        range("week", 0, 7, ARGUMENT, value -> y.amountAt(2, 9, value));
        range("week that is over", 0, 7, ARGUMENT, value -> late.amountAt(2, 9, value));
        about("promise 39: shortage");
        range("right", 0, 9, INDEX, value -> y.shortage(value, 7));
        range("week", 0, 7, ARGUMENT, value -> y.shortage(9, value));
        range("week that is over", 0, 7, ARGUMENT, value -> late.shortage(9, value));
    }

    private static void questionsOfNodes() {
        RiverSeniority x = office("basin;" + "place 0 0;".repeat(6) + "right 5 1900 0 ask 0 7 1;".repeat(10));
        about("promise 44: witnessSize");
        range("right", 0, 9, INDEX, value -> x.witnessSize(value, 7));
        range("week", 0, 7, ARGUMENT, value -> x.witnessSize(9, value));
        about("promise 45: markWitness");
        range("right", 0, 9, INDEX, value -> x.markWitness(value, 7));
        range("week", 0, 7, ARGUMENT, value -> x.markWitness(9, value));
        about("promise 46: mark");
        range("place", 0, 5, INDEX, value -> x.mark(value, 7, true));
        range("week", 0, 7, ARGUMENT, value -> x.mark(5, value, false));
        about("promise 48: isMarked");
        range("place", 0, 5, INDEX, value -> x.isMarked(value, 7));
        range("week", 0, 7, ARGUMENT, value -> x.isMarked(5, value));
        about("promise 50: takenInMarks");
        range("right", 0, 9, INDEX, value -> x.takenInMarks(value, 7));
        range("week", 0, 7, ARGUMENT, value -> x.takenInMarks(9, value));
        about("promises 44, 45 and 50: weeks that are over, and the present one");
        for (int today = 1; today < 8; today++) {
            int week = today;
            x.passWeek();
            refused("witnessSize ahead of " + week, ELEMENT, () -> x.witnessSize(0, week - 1));
            refused("markWitness ahead of " + week, ELEMENT, () -> x.markWitness(0, week - 1));
            refused("takenInMarks ahead of " + week, STATE, () -> x.takenInMarks(0, week - 1));
            due("witnessSize in " + week, x.witnessSize(0, week), 1);
            due("markWitness in " + week, x.markWitness(0, week), 0);
            due("takenInMarks in " + week, x.takenInMarks(0, week), 0);
        }
    }

    private static void whatWouldBe() {
        RiverSeniority x = ten();
        about("promise 51: helpedRight");
        range("reach", 0, 8, INDEX, value -> x.helpedRight(value, 7));
        range("week", 0, 7, ARGUMENT, value -> x.helpedRight(8, value));
        about("promise 52: closureCost");
        range("reach", 0, 8, INDEX, value -> x.closureCost(value, 7));
        range("week", 0, 7, ARGUMENT, value -> x.closureCost(8, value));
        about("promise 53: harm");
        for (int right = 1; right < 10; right++) {
            // Of 60 units right 0 takes 36, and right 1 those that are left.
            due("to right " + right, x.harm(right, 0), right == 1 ? 12 : right == 2 ? 24 : 0);
            due("by right " + right, x.harm(0, right), 0);
        }
        for (int beside : new int[] {-1, 10, LOW, HIGH}) {
            refused("to right " + beside, INDEX, () -> x.harm(beside, 0));
            refused("by right " + beside, INDEX, () -> x.harm(0, beside));
            refused("to and by right " + beside, INDEX, () -> x.harm(beside, beside));
        }
        for (int right = 0; right < 10; right++) {
            int same = right;
            refused("right " + right + " and itself", ARGUMENT, () -> x.harm(same, same));
        }
        about("promises 51 and 52: weeks that are over, and the present one");
        RiverSeniority y = tenInWeek(0);
        for (int today = 1; today < 8; today++) {
            int week = today;
            y.passWeek();
            refused("helpedRight ahead of " + week, STATE, () -> y.helpedRight(0, week - 1));
            refused("closureCost ahead of " + week, STATE, () -> y.closureCost(0, week - 1));
            due("helpedRight in " + week, y.helpedRight(0, week), NONE);
            due("closureCost in " + week, y.closureCost(0, week), 0);
        }
    }

    private static void whatWouldBeOfLeases() {
        RiverSeniority x = ten();
        about("promise 55: greatestLease");
        range("right", 0, 9, INDEX, value -> x.greatestLease(value, 5, 7, 7));
        range("place", 0, 5, INDEX, value -> x.greatestLease(9, value, 7, 7));
        range("first", 0, 7, ARGUMENT, value -> x.greatestLease(9, 5, value, 7));
        range("last", 4, 7, ARGUMENT, value -> x.greatestLease(9, 5, 4, value));
        due("with 10 rights there is none", x.greatestLease(0, 0, 0, 0), 0);
        about("promises 54 and 55: nothing changes");
        RiverSeniority y = new RiverSeniority();
        due("injuredRight", y.injuredRight(3, 0, 3, 0, 7), NONE);
        due("greatestLease", y.greatestLease(3, 0, 0, 7), 3);
        due("text", written(y), FIRST);
        due("undo", y.undo(), NONE);
    }

    // ---------------------------------------------------------------- answers

    private static void counts() {
        about("promises 26 to 29: today, placeCount, reachCount, rightCount");
        RiverSeniority x = office("basin;");
        due("today", x.today(), 0);
        due("places", x.placeCount(), 0);
        due("reaches", x.reachCount(), 0);
        due("rights", x.rightCount(), 0);
        due("passing without anything", x.passWeek(), 1);
        RiverSeniority y = ten();
        due("places", y.placeCount(), 6);
        due("reaches", y.reachCount(), 9);
        due("rights", y.rightCount(), 10);
        y.undo();
        due("places of the first basin", y.placeCount(), 4);
        due("reaches of the first basin", y.reachCount(), 4);
        due("rights of the first basin", y.rightCount(), 4);
    }

    private static void answersOfRights() {
        about("promise 34: rankOf is 0 for the oldest one, 9 for the youngest of ten");
        RiverSeniority x = ten();
        for (int right = 0; right < 10; right++) {
            due("of the same year", x.rankOf(right), right);
        }
        x.abandon(0);
        due("an abandoned right has a rank", x.rankOf(0), 0);
        about("promise 35: lessorOf");
        RiverSeniority y = office("basin;place 60 60;right 0 1900 0 ask 0 7 20;");
        due("not leased", y.lessorOf(0), NONE);
        y.lease(0, 0, 1, 0, 0);
        due("leased from right 0", y.lessorOf(1), 0);
        y.abandon(0);
        due("whatever becomes of the lessor", y.lessorOf(1), 0);
        about("promise 36: balance");
        RiverSeniority z = office("basin;place 60 60;right 0 1900 9 ask 0 7 20;");
        due("0", z.balance(0), 0);
        z.passWeek();
        due("below 0", z.balance(0), -180);
        about("promises 32, 37, 38 and 39: from 0 to 20 a week, 160 in all");
        RiverSeniority full = office("basin;place 60 0;right 0 1900 0 ask 0 7 20;right 0 1910 0 ask 0 7 20;"
            + "inflow 0 0 20 20 20 20 20 20 20 20;");
        due("asks", asks(full, 0, 0), "20 20 20 20 20 20 20 20");
        due("amounts", amounts(full, 0, 0), "20 20 20 20 20 20 20 20");
        due("total", full.total(0), 160);
        due("total of nothing", full.total(1), 0);
        due("no shortage", full.shortage(0, 7), 0);
        due("a shortage", full.shortage(1, 7), 20);
        RiverSeniority late = passed(full, 8);
        due("total in the end", late.total(0), 160);
        due("shortage in the end", late.shortage(1, 0), 20);
    }

    private static void answersOfWater() {
        about("promise 40: sent is 0 to 50");
        RiverSeniority x = office("basin;place 60 60;place 0 0;reach 0 1 50 0;" + "right 1 1900 0 ask 0 0 20;".repeat(3)
            + "inflow 0 0 40;");
        due("50", x.sent(0, 0), 50);
        due("0", x.sent(0, 1), 0);
        due("what is left is stored", x.storageAt(0, 1), 50);
        due("errors", x.errors(), 0);
        about("promise 41: storageAt is 0 to 60, for the weeks 0 to 8");
        RiverSeniority y = office("basin;place 60 60;place 60 0;inflow 0 0 40 40 40 40 40 40 40 40;");
        for (int week = 0; week <= 8; week++) {
            due("full", y.storageAt(0, week), 60);
            due("empty", y.storageAt(1, week), 0);
        }
        about("promise 42: runOff is at least 0");
        due("40", y.runOff(0, 7), 40);
        due("0", y.runOff(1, 7), 0);
        RiverSeniority z = office("basin;place 0 0;place 60 60;" + "reach 1 0 50 1;".repeat(2) + "inflow 0 0 40 40;"
            + "right 0 1900 0 ask 1 1 20;");
        due("what is not needed is not sent", z.runOff(0, 1), 20);
        about("promises 40 to 42: what was not there is 0 in weeks that are over");
        RiverSeniority late = passed(office("basin;place 0 0;inflow 0 0 9 9 9;"), 3);
        late.addPlace(60, 60);
        late.addReach(1, 0, 50, 0);
        late.addRight(0, 1900, 0);
        for (int week = 0; week < 3; week++) {
            due("sent", late.sent(0, week), 0);
            due("storageAt", late.storageAt(1, week), 0);
            due("runOff", late.runOff(1, week), 0);
            due("amountAt", late.amountAt(0, 0, week), 0);
            due("askedAt", late.askedAt(0, 0, week), 0);
            due("what ran off", late.runOff(0, week), 9);
        }
        due("now it is there", late.storageAt(1, 3), 60);
        about("promise 44: witnessSize is at least 1");
        due("1", office("basin;place 0 0;right 0 1900 0 ask 0 0 1;").witnessSize(0, 0), 1);
        String all = SIX.replace("60 60", "60 0") + "reach 0 1 50 0;reach 1 2 50 0;reach 2 3 50 0;reach 3 4 50 0;reach 4 5 50 0;";
        due("all 48 nodes", office(all + "right 5 1900 0 ask 7 7 1;").witnessSize(0, 7), 48);
        due("all nodes of the first week", office(all + "right 5 1900 0 ask 0 0 1;").witnessSize(0, 0), 6);
    }

    private static void helped() {
        about("promise 51: helpedRight is the right of the first amount, in the order of amounts, that would be another one");
        RiverSeniority x = office("basin;place 60 60;place 0 0;reach 0 1 0 0;right 1 1910 0 ask 0 0 1;right 1 1900 0 ask 0 0 1;"
            + "right 1 1890 0;");
        due("the older one", x.helpedRight(0, 0), 1);
        x.setCapacity(0, 0, 1);
        due("the younger one", x.helpedRight(0, 0), 0);
        x.setCapacity(0, 0, 2);
        due("none", x.helpedRight(0, 0), NONE);
        RiverSeniority fresh = new RiverSeniority();
        due("the first question of a new object", fresh.helpedRight(0, 0), NONE);
        due("the second one", fresh.helpedRight(2, 0), 0);
        about("promise 51: also if the capacity is 50");
        RiverSeniority y = office("basin;place 60 60;place 0 0;reach 0 1 50 0;" + "right 1 1900 0 ask 0 0 20;".repeat(3));
        due("51 would help the third right", y.helpedRight(0, 0), 2);
        due("it stays 50", y.capacityAt(0, 0), 50);
        due("what is not enough stays so", y.amountAt(0, 2, 0), 10);
        about("promise 51: one week alone is greater by 1");
        RiverSeniority z = office("basin;place 60 60;place 0 0;reach 0 1 0 2;right 1 1900 0 ask 2 7 1;");
        due("week 0", z.helpedRight(0, 0), 0);
        due("week 5", z.helpedRight(0, 5), 0);
        due("week 6 is too late", z.helpedRight(0, 6), NONE);
        due("week 7 is too late", z.helpedRight(0, 7), NONE);
    }

    private static void closures() {
        about("promise 52: closureCost is what the sum of all amounts would be less");
        RiverSeniority x = office("basin;place 60 60;place 0 0;reach 0 1 50 0;reach 0 1 50 0;" + "right 1 1900 0 ask 0 0 20;".repeat(3));
        due("all by the other reach, but 10", x.closureCost(0, 0), 10);
        x.setCapacity(1, 0, 0);
        due("the whole of it", x.closureCost(0, 0), 50);
        due("a closed reach", x.closureCost(1, 0), 0);
        due("another week", x.closureCost(0, 7), 0);
        due("it stays open", x.capacityAt(0, 0), 50);
        about("promise 52: in weeks that are not over");
        RiverSeniority y = office("basin;place 60 20;place 0 0;reach 0 1 3 0;right 1 1900 0 ask 0 7 2;");
        due("week 0", y.closureCost(0, 0), 2);
        y.passWeek();
        due("week 1", y.closureCost(0, 1), 2);
        due("week 7", y.closureCost(0, 7), 2);
        y.measure(0, 5);
        due("its water is taken in other weeks", y.closureCost(0, 1), 0);
        about("promise 52: the water that is left may be taken by others");
        RiverSeniority z = office("basin;place 0 0;place 0 0;reach 0 1 3 0;right 1 1900 0 ask 0 0 3;right 0 1910 0 ask 0 0 2;"
            + "inflow 0 0 3;");
        due("2 of 3", z.closureCost(0, 0), 1);
    }

    private static void harms() {
        about("promise 53: harm is what a right would get more without another one");
        RiverSeniority x = office("basin;place 60 5;right 0 1900 0 ask 0 0 3;right 0 1910 0 ask 0 0 9;right 0 1920 0 ask 7 7 9;"
            + "right 0 1930 0;");
        due("the second by the first", x.harm(1, 0), 3);
        due("the third by the first", x.harm(2, 0), 0);
        due("the third by the second", x.harm(2, 1), 2);
        due("the first by the second", x.harm(0, 1), 0);
        due("by one that asks for nothing", x.harm(2, 3), 0);
        due("to one that asks for nothing", x.harm(3, 0), 0);
        x.abandon(1);
        due("by an abandoned one", x.harm(2, 1), 0);
        due("to an abandoned one", x.harm(1, 0), 0);
        about("promise 53: in weeks that are not over; 0 if the year is over");
        RiverSeniority y = office("basin;place 0 0;right 0 1900 0 ask 0 7 1;right 0 1910 0 ask 0 7 1;inflow 0 0 1 1 1 1 1 1 1 1;");
        for (int week = 0; week <= 8; week++) {
            due("in week " + week, y.harm(1, 0), 8 - week);
            answer(y::passWeek);
        }
        RiverSeniority closed = passed(office("basin;place 0 0;right 0 1900 9 ask 0 7 1;right 0 1910 0 ask 0 7 1;"
            + "inflow 0 0 1 1 1 1 1 1 1 1;"), 1);
        due("by a closed one", closed.harm(1, 0), 0);
    }

    private static void greatestLeases() {
        about("promise 55: the greatest amount from 1 to 20, 0 if there is none");
        String text = "basin;place 60 60;place 60 60;right 0 1900 0 ask 0 7 ";
        due("20", office(text + "20;").greatestLease(0, 1, 0, 0), 20);
        due("20 in all weeks", office(text + "20;").greatestLease(0, 1, 0, 7), 20);
        due("19", office(text + "19;").greatestLease(0, 1, 0, 7), 19);
        due("1", office(text + "1;").greatestLease(0, 1, 0, 7), 1);
        due("0", office(text + "0;").greatestLease(0, 1, 0, 7), 0);
        due("the least ask of these weeks", office(text + "9 ask 3 3 2;").greatestLease(0, 1, 0, 3), 2);
        due("a week without an ask", office(text + "9 ask 7 7 0;").greatestLease(0, 1, 0, 7), 0);
        due("the last week", office(text + "9;").greatestLease(0, 1, 7, 7), 9);
        RiverSeniority x = office(text + "9;");
        x.abandon(0);
        due("an abandoned lessor", x.greatestLease(0, 1, 0, 0), 0);
        about("promise 55: as much as injures nobody in any scenario");
        RiverSeniority y = office("basin;place 0 0;place 0 0;right 0 1900 0 ask 0 0 9;right 1 1910 0 ask 0 0 5;"
            + "inflow 0 0 9;inflow 0 1 9;inflow 1 1 9;inflow 2 1 6;");
        due("greatest", y.greatestLease(0, 1, 0, 0), 1);
        due("it is admitted", y.lease(0, 1, 1, 0, 0), 2);
        due("no more is", y.greatestLease(0, 1, 0, 0), 0);
        refused("one unit more", STATE, () -> y.lease(0, 1, 1, 0, 0));
        due("whom it would injure", y.injuredRight(0, 1, 1, 0, 0), 1);
    }

    private static void shares() {
        about("promise 56: meanShortage");
        due("without a right", office("basin;").meanShortage(), 0.0);
        due("when the year is over", over().meanShortage(), 0.0);
        due("without a shortage", office("basin;place 60 60;right 0 1900 0 ask 0 7 1;").meanShortage(), 0.0);
        due("the greatest", office("basin;place 0 0;" + "right 0 1900 0 ask 0 7 20;".repeat(10)).meanShortage(), 20.0);
        RiverSeniority x = passed(office("basin;place 0 0;right 0 1900 0 ask 0 7 1;right 0 1900 0 ask 7 7 1;"
            + "right 0 1900 0;inflow 0 0 1;"), 5);
        due("4 of 9 in the weeks 5 to 7", x.meanShortage(), 4.0 / 9.0);
        x.passWeek();
        x.passWeek();
        due("2 of 3 in the last week", x.meanShortage(), 2.0 / 3.0);
        RiverSeniority one = passed(office("basin;place 0 0;right 0 1900 0 ask 0 7 3;"), 7);
        due("of one right in the last week", one.meanShortage(), 3.0);
        about("promise 57: servedShare");
        due("one unit", office("basin;place 9 1;right 0 1900 0 ask 0 0 1;").servedShare(), 1.0f);
        due("by scenario 0", office("basin;place 9 9;right 0 1900 0 ask 0 0 9 decree flow(0);inflow 0 0 2;inflow 1 0 5;").servedShare(), 1.0f);
        due("without a right", office("basin;").servedShare(), 0.0f);
        due("nothing is asked for", office("basin;place 9 9;right 0 1900 0;").servedShare(), 0.0f);
        due("nothing is given", office("basin;place 0 0;right 0 1900 0 ask 0 7 20;").servedShare(), 0.0f);
        due("all is given", office("basin;place 60 60;right 0 1900 0 ask 0 7 7;").servedShare(), 1.0f);
        due("a third", office("basin;place 9 1;right 0 1900 0 ask 7 7 3;").servedShare(), 1.0f / 3.0f);
        RiverSeniority y = passed(office("basin;place 9 7;right 0 1900 0 ask 0 7 1;right 0 1910 1 ask 0 0 4;"), 3);
        due("with weeks that are over", y.servedShare(), 7.0f / 12.0f);
        y.abandon(0);
        due("what is not asked for any more", y.servedShare(), 3.0f / 7.0f);
        due("when the year is over", passed(y, 5).servedShare(), 3.0f / 7.0f);
    }

    private static void errors() {
        about("promise 58: errors is always 0");
        due("of a new object", new RiverSeniority().errors(), 0);
        due("of nothing", office("basin;").errors(), 0);
        due("of much", ten().errors(), 0);
        due("when the year is over", over().errors(), 0);
        RiverSeniority x = ten();
        x.amountAt(0, 0, 0);
        x.measure(5, 0);
        x.helpedRight(0, 0);
        due("behind a question of what would be", x.errors(), 0);
        for (int week = 0; week < 8; week++) {
            x.setCapacity(0, week, week);
            x.passWeek();
            due("in week " + (week + 1), x.errors(), 0);
        }
        x.undo();
        due("behind an undo", x.errors(), 0);
    }
}
