import java.util.function.Supplier;

/**
 * Refused calls: each exception that the document names for a call, and the first one that is listed where
 * several apply; and that such a call leaves everything as it was. For this, two offices are made in the same
 * way, the call is made on one of them, and the pictures of both must be the same.
 */
public final class RefusalsTest extends Checks {
    private interface Use {
        Object of(RiverSeniority x);
    }

    private static Supplier<RiverSeniority> made;
    private static String madeName;

    public static void main(String[] args) {
        inTheMiddle();
        full();
        fullOfBytes();
        nothing();
        overYear();
        texts();
        finish();
    }

    private static void offices(String name, Supplier<RiverSeniority> office) {
        made = office;
        madeName = name;
    }

    private static void no(Class<?> want, String what, Use use) {
        about("a refused call " + madeName + ": " + what);
        for (int part = 0; part < Picture.PARTS; part++) {
            RiverSeniority x = made.get();
            due("the call", answer(() -> use.of(x)), want);
            alike("what is there then", Picture.of(x, part), Picture.of(made.get(), part));
        }
    }

    // ---------------------------------------------------------------- offices

    /** Two weeks over; right 1 is abandoned, 2 is closed, 3 has a decree, 4 is leased; two branches; a bit of all else. */
    private static RiverSeniority middle() {
        RiverSeniority x = office("basin;place 20 8;place 9 3;place 0 0;reach 0 1 6 1;reach 1 2 5 0 week 3 2;reach 2 0 4 0;"
            + "right 1 1900 1 coins 40 ask 0 7 4;right 0 1910 0 ask 0 7 2;right 1 1890 9 coins 17 ask 0 7 2;"
            + "right 2 1950 0 ask 0 7 5 decree week+2;inflow 0 0 5 6 7 3 2 5 1 1;inflow 1 0 7 7 7 7 7 7 7 7;inflow 2 1 2 2 2 9;");
        answer(() -> decree(x, 0, "1+"));
        x.lease(0, 0, 2, 2, 4);
        x.createBranch();
        x.abandon(1);
        x.passWeek();
        x.passWeek();
        x.setAsk(3, 4, 5, 9);
        x.setInflow(0, 1, 6, 3);
        x.undo();
        x.undo();
        x.mark(1, 4, true);
        x.mark(0, 0, true);
        x.writeBasin();
        say(x, "basin;place 3 1;");
        return x;
    }

    /** 6 places, 9 reaches, 10 rights and 3 branches. */
    private static RiverSeniority crowd() {
        RiverSeniority x = office("basin;" + "place 9 4;".repeat(6) + "reach 0 1 2 0;reach 1 2 2 0;reach 2 3 2 1;".repeat(3)
            + "right 1 1900 1 ask 0 7 3;right 5 1950 1 ask 2 3 6;".repeat(5) + "inflow 0 0 9 9 9 9;inflow 2 5 4;");
        x.createBranch();
        x.createBranch();
        x.switchBranch(2);
        x.gauge(0, 3);
        x.undo();
        say(x, "basin;");
        return x;
    }

    private static RiverSeniority fullBuffer() {
        RiverSeniority x = new RiverSeniority();
        say(x, "basin;place 3 1;" + " ".repeat(884));
        return x;
    }

    // ---------------------------------------------------------------- refusals

    private static void inTheMiddle() {
        offices("in the middle of the year", RefusalsTest::middle);
        changesOfTheBasin();
        changesOfRights();
        leasesThatAreRefused();
        changesOfWeeks();
        questions();
        questionsAboutWater();
        whatWouldBe();
    }

    private static void changesOfTheBasin() {
        no(ARGUMENT, "capacity -1", x -> x.addPlace(-1, 0));
        no(ARGUMENT, "capacity and storage below 0", x -> x.addPlace(-1, -1));
        no(ARGUMENT, "capacity 61", x -> x.addPlace(61, 0));
        no(ARGUMENT, "storage -1", x -> x.addPlace(60, -1));
        no(ARGUMENT, "storage above the capacity", x -> x.addPlace(59, 60));
        no(ARGUMENT, "storage without a capacity", x -> x.addPlace(0, 1));
        no(INDEX, "from -1", x -> x.addReach(-1, 0, 1, 1));
        no(INDEX, "from 3", x -> x.addReach(3, 0, 1, 1));
        no(INDEX, "to -1", x -> x.addReach(0, -1, 1, 1));
        no(INDEX, "to 3", x -> x.addReach(0, 3, 1, 1));
        no(INDEX, "from and to the same, and not there", x -> x.addReach(3, 3, 1, 1));
        no(INDEX, "from, and capacity and time", x -> x.addReach(HIGH, 0, 51, 3));
        no(INDEX, "to, and capacity and time", x -> x.addReach(0, LOW, -1, -1));
        no(ARGUMENT, "from and to the same", x -> x.addReach(2, 2, 1, 1));
        no(ARGUMENT, "capacity of a reach -1", x -> x.addReach(0, 1, -1, 1));
        no(ARGUMENT, "capacity of a reach 51", x -> x.addReach(0, 1, 51, 1));
        no(ARGUMENT, "time -1", x -> x.addReach(0, 1, 1, -1));
        no(ARGUMENT, "time 3", x -> x.addReach(0, 1, 1, 3));
        no(INDEX, "reach -1", x -> x.setCapacity(-1, 2, 1));
        no(INDEX, "reach 3", x -> x.setCapacity(3, 2, 1));
        no(INDEX, "reach, week and capacity", x -> x.setCapacity(3, 8, 51));
        no(INDEX, "reach, and a week that is over", x -> x.setCapacity(3, 1, 1));
        no(ARGUMENT, "week 8", x -> x.setCapacity(0, 8, 1));
        no(ARGUMENT, "week -1, which is less than the present one, too", x -> x.setCapacity(0, -1, 1));
        no(ARGUMENT, "capacity in a week -1", x -> x.setCapacity(0, 2, -1));
        no(ARGUMENT, "capacity in a week 51", x -> x.setCapacity(0, 2, 51));
        no(ARGUMENT, "capacity 51, and a week that is over", x -> x.setCapacity(0, 1, 51));
        no(STATE, "a week that is over", x -> x.setCapacity(0, 1, 1));
        no(STATE, "the first week, which is over", x -> x.setCapacity(0, 0, 0));
    }

    private static void changesOfRights() {
        no(INDEX, "place of a right -1", x -> x.addRight(-1, 1900, 1));
        no(INDEX, "place of a right 3", x -> x.addRight(3, 1900, 1));
        no(INDEX, "place, year and price", x -> x.addRight(3, 1799, 10));
        no(ARGUMENT, "year 1799", x -> x.addRight(0, 1799, 1));
        no(ARGUMENT, "year 2100", x -> x.addRight(0, 2100, 1));
        no(ARGUMENT, "price -1", x -> x.addRight(0, 1900, -1));
        no(ARGUMENT, "price 10", x -> x.addRight(0, 1900, 10));
        no(INDEX, "right -1", x -> x.setAsk(-1, 2, 2, 1));
        no(INDEX, "right 5", x -> x.setAsk(5, 2, 2, 1));
        no(INDEX, "right, weeks and amount", x -> x.setAsk(5, 8, 1, 21));
        no(INDEX, "right, and a week that is over", x -> x.setAsk(5, 1, 2, 1));
        no(ARGUMENT, "first -1", x -> x.setAsk(0, -1, 2, 1));
        no(ARGUMENT, "first 8", x -> x.setAsk(0, 8, 8, 1));
        no(ARGUMENT, "last 8", x -> x.setAsk(0, 2, 8, 1));
        no(ARGUMENT, "last less than first", x -> x.setAsk(0, 3, 2, 1));
        no(ARGUMENT, "ask -1", x -> x.setAsk(0, 2, 2, -1));
        no(ARGUMENT, "ask 21", x -> x.setAsk(0, 2, 2, 21));
        no(ARGUMENT, "ask 21, and a week that is over", x -> x.setAsk(0, 1, 2, 21));
        no(ARGUMENT, "last 8, of an abandoned right", x -> x.setAsk(1, 2, 8, 1));
        no(STATE, "the first week is over, the last one not", x -> x.setAsk(0, 1, 7, 1));
        no(STATE, "both weeks are over", x -> x.setAsk(0, 0, 0, 1));
        no(STATE, "ask of an abandoned right", x -> x.setAsk(1, 2, 2, 1));
        no(STATE, "ask of an abandoned right in a week that is over", x -> x.setAsk(1, 1, 1, 1));
        no(INDEX, "decree of right 5", x -> x.setDecree(5));
        no(INDEX, "decree of right -1", x -> x.setDecree(-1));
        no(STATE, "decree of an abandoned right", x -> x.setDecree(1));
        no(INDEX, "abandoning right 5", x -> x.abandon(5));
        no(INDEX, "abandoning right -1", x -> x.abandon(-1));
        no(STATE, "abandoning an abandoned right", x -> x.abandon(1));
        no(INDEX, "coins for right 5", x -> x.fund(5, 1));
        no(INDEX, "coins for right -1", x -> x.fund(-1, 1));
        no(INDEX, "0 coins for right 5", x -> x.fund(5, 0));
        no(ARGUMENT, "coins 0", x -> x.fund(0, 0));
        no(ARGUMENT, "coins -1", x -> x.fund(0, -1));
        no(ARGUMENT, "coins 1001", x -> x.fund(0, 1001));
        no(ARGUMENT, "greatest int of coins", x -> x.fund(0, HIGH));
    }

    private static void leasesThatAreRefused() {
        no(INDEX, "lessor -1", x -> x.lease(-1, 0, 1, 2, 2));
        no(INDEX, "lessor 5", x -> x.lease(5, 0, 1, 2, 2));
        no(INDEX, "place of a lease -1", x -> x.lease(0, -1, 1, 2, 2));
        no(INDEX, "place of a lease 3", x -> x.lease(0, 3, 1, 2, 2));
        no(INDEX, "lessor, amount and weeks", x -> x.lease(5, 0, 0, 8, 8));
        no(INDEX, "place, amount and weeks", x -> x.lease(0, 3, 21, 3, 2));
        no(INDEX, "place, and an abandoned lessor", x -> x.lease(1, 3, 1, 2, 2));
        no(ARGUMENT, "leased amount 0", x -> x.lease(0, 0, 0, 5, 5));
        no(ARGUMENT, "leased amount -1", x -> x.lease(0, 0, -1, 5, 5));
        no(ARGUMENT, "leased amount 21", x -> x.lease(0, 0, 21, 5, 5));
        no(ARGUMENT, "lease from week -1", x -> x.lease(0, 0, 1, -1, 5));
        no(ARGUMENT, "lease from week 8", x -> x.lease(0, 0, 1, 8, 8));
        no(ARGUMENT, "lease to week 8", x -> x.lease(0, 0, 1, 5, 8));
        no(ARGUMENT, "lease to a week ahead of its first", x -> x.lease(0, 0, 1, 6, 5));
        no(ARGUMENT, "amount 0, and a week that is over", x -> x.lease(0, 0, 0, 1, 5));
        no(ARGUMENT, "amount 0, of an abandoned lessor", x -> x.lease(1, 0, 0, 5, 5));
        no(ARGUMENT, "last 8, of a closed lessor", x -> x.lease(2, 0, 1, 5, 8));
        no(STATE, "lease from a week that is over", x -> x.lease(0, 0, 1, 1, 5));
        no(STATE, "an abandoned lessor", x -> x.lease(1, 0, 1, 5, 5));
        no(STATE, "a closed lessor", x -> x.lease(2, 0, 1, 5, 5));
        no(STATE, "the ask is less in the first week", x -> x.lease(0, 0, 3, 4, 5));
        no(STATE, "the ask is less in the last week", x -> x.lease(4, 0, 1, 4, 5));
        no(STATE, "not admitted, by scenario 1", x -> x.lease(0, 2, 4, 5, 5));
        no(INDEX, "injured by lessor 5", x -> x.injuredRight(5, 0, 0, 8, 8));
        no(INDEX, "injured by lessor -1", x -> x.injuredRight(-1, 0, 1, 5, 5));
        no(INDEX, "injured by a lease to place 3", x -> x.injuredRight(0, 3, 0, 8, 8));
        no(INDEX, "injured by a lease to place -1", x -> x.injuredRight(1, -1, 1, 1, 5));
        no(ARGUMENT, "injured by a lease of 0", x -> x.injuredRight(1, 0, 0, 1, 5));
        no(ARGUMENT, "injured by a lease of 21", x -> x.injuredRight(0, 0, 21, 5, 5));
        no(ARGUMENT, "injured by a lease from week -1", x -> x.injuredRight(0, 0, 1, -1, 5));
        no(ARGUMENT, "injured by a lease to week 8", x -> x.injuredRight(0, 0, 1, 5, 8));
        no(ARGUMENT, "injured by a lease to an earlier week", x -> x.injuredRight(0, 0, 1, 5, 4));
        no(STATE, "injured by a lease from a week that is over", x -> x.injuredRight(0, 0, 1, 1, 5));
        no(STATE, "injured by an abandoned lessor", x -> x.injuredRight(1, 0, 1, 5, 5));
        no(STATE, "injured by a closed lessor", x -> x.injuredRight(2, 0, 1, 5, 5));
        no(STATE, "injured, the ask is less", x -> x.injuredRight(0, 0, 5, 5, 5));
    }

    private static void changesOfWeeks() {
        no(INDEX, "scenario -1", x -> x.setInflow(-1, 0, 2, 1));
        no(INDEX, "scenario 3", x -> x.setInflow(3, 0, 2, 1));
        no(INDEX, "place of an inflow -1", x -> x.setInflow(0, -1, 2, 1));
        no(INDEX, "place of an inflow 3", x -> x.setInflow(0, 3, 2, 1));
        no(INDEX, "scenario, week and amount", x -> x.setInflow(3, 0, 8, 41));
        no(INDEX, "place, week and amount", x -> x.setInflow(0, 3, -1, -1));
        no(INDEX, "place, and a week that is over", x -> x.setInflow(0, 3, 1, 1));
        no(ARGUMENT, "week -1 of an inflow", x -> x.setInflow(0, 0, -1, 1));
        no(ARGUMENT, "week 8 of an inflow", x -> x.setInflow(0, 0, 8, 1));
        no(ARGUMENT, "inflow -1", x -> x.setInflow(0, 0, 2, -1));
        no(ARGUMENT, "inflow 41", x -> x.setInflow(0, 0, 2, 41));
        no(ARGUMENT, "inflow 41, and a week that is over", x -> x.setInflow(0, 0, 1, 41));
        no(STATE, "inflow in a week that is over", x -> x.setInflow(1, 0, 1, 1));
        no(INDEX, "gauge at place -1", x -> x.gauge(-1, 1));
        no(INDEX, "gauge at place 3", x -> x.gauge(3, 41));
        no(ARGUMENT, "gauge of -1", x -> x.gauge(0, -1));
        no(ARGUMENT, "gauge of 41", x -> x.gauge(0, 41));
        no(INDEX, "storage at place -1", x -> x.measure(-1, 1));
        no(INDEX, "storage at place 3", x -> x.measure(3, -1));
        no(ARGUMENT, "measured storage -1", x -> x.measure(0, -1));
        no(ARGUMENT, "measured storage above the capacity", x -> x.measure(0, 21));
        no(ARGUMENT, "measured storage without a capacity", x -> x.measure(2, 1));
        no(INDEX, "branch -1", x -> x.switchBranch(-1));
        no(INDEX, "branch 2", x -> x.switchBranch(2));
        no(INDEX, "difference to branch -1", x -> x.difference(-1));
        no(INDEX, "difference to branch 2", x -> x.difference(2));
    }

    private static void questions() {
        no(INDEX, "byte -1", x -> x.writtenAt(-1));
        no(INDEX, "a byte behind the end", x -> x.writtenAt(x.writeBasin()));
        no(INDEX, "capacity of reach -1", x -> x.capacityAt(-1, 0));
        no(INDEX, "capacity of reach 3, and week 8", x -> x.capacityAt(3, 8));
        no(ARGUMENT, "capacity in week -1", x -> x.capacityAt(0, -1));
        no(ARGUMENT, "capacity in week 8", x -> x.capacityAt(0, 8));
        no(INDEX, "inflow of scenario -1", x -> x.inflowAt(-1, 0, 0));
        no(INDEX, "inflow of scenario 3, and week 8", x -> x.inflowAt(3, 0, 8));
        no(INDEX, "inflow of place -1", x -> x.inflowAt(0, -1, 0));
        no(INDEX, "inflow of place 3, and week -1", x -> x.inflowAt(0, 3, -1));
        no(ARGUMENT, "inflow in week -1", x -> x.inflowAt(0, 0, -1));
        no(ARGUMENT, "inflow in week 8", x -> x.inflowAt(2, 2, 8));
        no(INDEX, "asked by scenario -1", x -> x.askedAt(-1, 0, 0));
        no(INDEX, "asked by scenario 3, and week 8", x -> x.askedAt(3, 0, 8));
        no(INDEX, "asked by right -1", x -> x.askedAt(0, -1, 0));
        no(INDEX, "asked by right 5, and week -1", x -> x.askedAt(0, 5, -1));
        no(ARGUMENT, "asked in week -1", x -> x.askedAt(0, 0, -1));
        no(ARGUMENT, "asked in week 8", x -> x.askedAt(2, 4, 8));
        no(INDEX, "decree by scenario -1", x -> x.decreeValue(-1, 3, 0));
        no(INDEX, "decree by scenario 3, and week 8, of a right without one", x -> x.decreeValue(3, 0, 8));
        no(INDEX, "decree of right -1", x -> x.decreeValue(0, -1, 0));
        no(INDEX, "decree of right 5, and week 8", x -> x.decreeValue(0, 5, 8));
        no(ARGUMENT, "decree in week -1", x -> x.decreeValue(0, 3, -1));
        no(ARGUMENT, "decree in week 8, of a right without one", x -> x.decreeValue(0, 0, 8));
        no(ELEMENT, "no decree", x -> x.decreeValue(0, 0, 7));
        no(INDEX, "rank of right -1", x -> x.rankOf(-1));
        no(INDEX, "rank of right 5", x -> x.rankOf(5));
        no(INDEX, "lessor of right -1", x -> x.lessorOf(-1));
        no(INDEX, "lessor of right 5", x -> x.lessorOf(5));
        no(INDEX, "balance of right -1", x -> x.balance(-1));
        no(INDEX, "balance of right 5", x -> x.balance(5));
    }

    private static void questionsAboutWater() {
        no(INDEX, "amount by scenario -1", x -> x.amountAt(-1, 0, 0));
        no(INDEX, "amount by scenario 3, and week 8", x -> x.amountAt(3, 0, 8));
        no(INDEX, "amount of right -1", x -> x.amountAt(0, -1, 0));
        no(INDEX, "amount of right 5, and week -1", x -> x.amountAt(0, 5, -1));
        no(ARGUMENT, "amount in week -1", x -> x.amountAt(0, 0, -1));
        no(ARGUMENT, "amount in week 8", x -> x.amountAt(2, 4, 8));
        no(INDEX, "total of right -1", x -> x.total(-1));
        no(INDEX, "total of right 5", x -> x.total(5));
        no(INDEX, "shortage of right -1", x -> x.shortage(-1, 0));
        no(INDEX, "shortage of right 5, and week 8", x -> x.shortage(5, 8));
        no(ARGUMENT, "shortage in week -1", x -> x.shortage(0, -1));
        no(ARGUMENT, "shortage in week 8", x -> x.shortage(0, 8));
        no(INDEX, "sent by reach -1", x -> x.sent(-1, 0));
        no(INDEX, "sent by reach 3, and week 8", x -> x.sent(3, 8));
        no(ARGUMENT, "sent in week -1", x -> x.sent(0, -1));
        no(ARGUMENT, "sent in week 8", x -> x.sent(0, 8));
        no(INDEX, "stored at place -1", x -> x.storageAt(-1, 0));
        no(INDEX, "stored at place 3, and week 9", x -> x.storageAt(3, 9));
        no(ARGUMENT, "stored in week -1", x -> x.storageAt(0, -1));
        no(ARGUMENT, "stored in week 9", x -> x.storageAt(0, 9));
        no(INDEX, "run-off at place -1", x -> x.runOff(-1, 0));
        no(INDEX, "run-off at place 3, and week 8", x -> x.runOff(3, 8));
        no(ARGUMENT, "run-off in week -1", x -> x.runOff(0, -1));
        no(ARGUMENT, "run-off in week 8", x -> x.runOff(0, 8));
        no(INDEX, "witness of right -1", x -> x.witnessSize(-1, 2));
        no(INDEX, "witness of right 5, and week 8", x -> x.witnessSize(5, 8));
        no(INDEX, "witness of right 5 in a week that is over", x -> x.witnessSize(5, 0));
        no(ARGUMENT, "witness in week -1, which is less than the present one, too", x -> x.witnessSize(0, -1));
        no(ARGUMENT, "witness in week 8", x -> x.witnessSize(0, 8));
        no(ELEMENT, "witness in a week that is over, with a shortage", x -> {
            due("a shortage", x.shortage(3, 1) > 0, true);
            return x.witnessSize(3, 1);
        });
        no(ELEMENT, "witness of no shortage", x -> x.witnessSize(2, 2));
        no(INDEX, "marked witness of right -1", x -> x.markWitness(-1, 2));
        no(INDEX, "marked witness of right 5, and week 8", x -> x.markWitness(5, 8));
        no(ARGUMENT, "marked witness in week -1", x -> x.markWitness(0, -1));
        no(ARGUMENT, "marked witness in week 8", x -> x.markWitness(0, 8));
        no(ELEMENT, "marked witness in a week that is over", x -> x.markWitness(3, 1));
        no(ELEMENT, "marked witness of no shortage", x -> x.markWitness(2, 2));
    }

    private static void whatWouldBe() {
        no(INDEX, "mark at place -1", x -> x.mark(-1, 0, true));
        no(INDEX, "mark at place 3, and week 8", x -> x.mark(3, 8, true));
        no(ARGUMENT, "mark in week -1", x -> x.mark(0, -1, true));
        no(ARGUMENT, "mark in week 8", x -> x.mark(0, 8, false));
        no(INDEX, "marked at place -1", x -> x.isMarked(-1, 0));
        no(INDEX, "marked at place 3, and week 8", x -> x.isMarked(3, 8));
        no(ARGUMENT, "marked in week -1", x -> x.isMarked(0, -1));
        no(ARGUMENT, "marked in week 8", x -> x.isMarked(0, 8));
        no(INDEX, "taken up to right -1", x -> x.takenInMarks(-1, 2));
        no(INDEX, "taken up to right 5, and week 8", x -> x.takenInMarks(5, 8));
        no(INDEX, "taken up to right 5 in a week that is over", x -> x.takenInMarks(5, 1));
        no(ARGUMENT, "taken up to week -1, which is less than the present one, too", x -> x.takenInMarks(0, -1));
        no(ARGUMENT, "taken up to week 8", x -> x.takenInMarks(0, 8));
        no(STATE, "taken up to a week that is over", x -> x.takenInMarks(0, 1));
        no(INDEX, "helped by reach -1", x -> x.helpedRight(-1, 2));
        no(INDEX, "helped by reach 3, and week 8", x -> x.helpedRight(3, 8));
        no(INDEX, "helped by reach 3 in a week that is over", x -> x.helpedRight(3, 1));
        no(ARGUMENT, "helped in week -1, which is less than the present one, too", x -> x.helpedRight(0, -1));
        no(ARGUMENT, "helped in week 8", x -> x.helpedRight(0, 8));
        no(STATE, "helped in a week that is over", x -> x.helpedRight(0, 1));
        no(INDEX, "closure of reach -1", x -> x.closureCost(-1, 2));
        no(INDEX, "closure of reach 3, and week 8", x -> x.closureCost(3, 8));
        no(INDEX, "closure of reach 3 in a week that is over", x -> x.closureCost(3, 1));
        no(ARGUMENT, "closure in week -1, which is less than the present one, too", x -> x.closureCost(0, -1));
        no(ARGUMENT, "closure in week 8", x -> x.closureCost(0, 8));
        no(STATE, "closure in a week that is over", x -> x.closureCost(0, 1));
        no(INDEX, "harm to right -1", x -> x.harm(-1, 0));
        no(INDEX, "harm to right 5", x -> x.harm(5, 0));
        no(INDEX, "harm by right -1", x -> x.harm(0, -1));
        no(INDEX, "harm by right 5", x -> x.harm(0, 5));
        no(INDEX, "harm to right 5 by itself", x -> x.harm(5, 5));
        no(ARGUMENT, "harm by itself", x -> x.harm(4, 4));
        no(INDEX, "greatest lease of right -1", x -> x.greatestLease(-1, 0, 2, 2));
        no(INDEX, "greatest lease of right 5, and weeks", x -> x.greatestLease(5, 0, 8, 8));
        no(INDEX, "greatest lease to place -1", x -> x.greatestLease(0, -1, 2, 2));
        no(INDEX, "greatest lease to place 3, in a week that is over", x -> x.greatestLease(0, 3, 1, 2));
        no(ARGUMENT, "greatest lease from week -1", x -> x.greatestLease(0, 0, -1, 2));
        no(ARGUMENT, "greatest lease from week 8", x -> x.greatestLease(0, 0, 8, 8));
        no(ARGUMENT, "greatest lease to week 8, from one that is over", x -> x.greatestLease(0, 0, 1, 8));
        no(ARGUMENT, "greatest lease to an earlier week", x -> x.greatestLease(0, 0, 4, 3));
        no(STATE, "greatest lease from a week that is over", x -> x.greatestLease(0, 0, 1, 2));
        no(STATE, "greatest lease of an abandoned right from a week that is over", x -> x.greatestLease(1, 0, 1, 2));
    }

    private static void full() {
        offices("with no room left", RefusalsTest::crowd);
        no(STATE, "a 7th place", x -> x.addPlace(0, 0));
        no(ARGUMENT, "a 7th place of capacity 61", x -> x.addPlace(61, 0));
        no(ARGUMENT, "a 7th place with too much storage", x -> x.addPlace(3, 4));
        no(STATE, "a 10th reach", x -> x.addReach(0, 5, 50, 2));
        no(ARGUMENT, "a 10th reach from and to the same", x -> x.addReach(5, 5, 50, 2));
        no(ARGUMENT, "a 10th reach of time 3", x -> x.addReach(0, 5, 50, 3));
        no(INDEX, "a 10th reach from place 6", x -> x.addReach(6, 5, 50, 2));
        no(INDEX, "a 10th reach to place 6", x -> x.addReach(5, 6, 50, 2));
        no(STATE, "an 11th right", x -> x.addRight(5, 2099, 9));
        no(ARGUMENT, "an 11th right of year 2100", x -> x.addRight(5, 2100, 9));
        no(INDEX, "an 11th right at place 6", x -> x.addRight(6, 2099, 9));
        no(STATE, "a lease with 10 rights", x -> x.lease(0, 0, 1, 0, 0));
        no(ARGUMENT, "a lease of 21 with 10 rights", x -> x.lease(0, 0, 21, 0, 0));
        no(INDEX, "a lease to place 6 with 10 rights", x -> x.lease(0, 6, 1, 0, 0));
        no(STATE, "injured with 10 rights", x -> x.injuredRight(0, 0, 1, 0, 0));
        no(STATE, "a 4th branch", x -> x.createBranch());
        no(INDEX, "branch 3", x -> x.switchBranch(3));
        no(INDEX, "difference to branch 3", x -> x.difference(3));
        no(INDEX, "inflow at place 6", x -> x.setInflow(0, 6, 0, 1));
        no(INDEX, "right 10", x -> x.setAsk(10, 0, 0, 1));
        no(INDEX, "reach 9", x -> x.setCapacity(9, 0, 1));
        no(INDEX, "mark at place 6", x -> x.mark(6, 0, true));
    }

    private static void fullOfBytes() {
        offices("with a full buffer", RefusalsTest::fullBuffer);
        no(STATE, "the 901st byte", x -> x.append(0, 0, 0, 0, ' '));
        no(STATE, "the 901st byte as the most significant one", x -> x.append(LOW, 0, 0, 0, 0));
        no(STATE, "20 more bytes", x -> x.append(-1, -1, -1, -1, -1));
        offices("with room for one byte", () -> {
            RiverSeniority x = new RiverSeniority();
            say(x, "basin;place 3 1;" + " ".repeat(883));
            return x;
        });
        no(STATE, "two bytes of one parameter", x -> x.append(0, 0x2020, 0, 0, 0));
        no(STATE, "two bytes of two parameters", x -> x.append(' ', 0, 0, 0, ' '));
    }

    private static void nothing() {
        offices("of an empty basin", () -> office("basin;"));
        no(INDEX, "a reach", x -> x.addReach(0, 1, 1, 1));
        no(INDEX, "a capacity", x -> x.setCapacity(0, 0, 1));
        no(INDEX, "a right", x -> x.addRight(0, 1900, 1));
        no(INDEX, "an ask", x -> x.setAsk(0, 0, 0, 1));
        no(INDEX, "a decree", x -> x.setDecree(0));
        no(INDEX, "an abandoned right", x -> x.abandon(0));
        no(INDEX, "coins", x -> x.fund(0, 1));
        no(INDEX, "a lease", x -> x.lease(0, 0, 1, 0, 0));
        no(INDEX, "an inflow", x -> x.setInflow(0, 0, 0, 1));
        no(INDEX, "a gauge", x -> x.gauge(0, 1));
        no(INDEX, "a measure", x -> x.measure(0, 0));
        no(INDEX, "branch 1", x -> x.switchBranch(1));
        no(INDEX, "difference to branch 1", x -> x.difference(1));
        no(INDEX, "what was written, when nothing was", x -> x.writtenAt(0));
        no(INDEX, "an amount", x -> x.amountAt(0, 0, 0));
        no(INDEX, "a sending", x -> x.sent(0, 0));
        no(INDEX, "a storage", x -> x.storageAt(0, 8));
        no(INDEX, "a mark", x -> x.mark(0, 0, true));
        no(INDEX, "a harm", x -> x.harm(0, 0));
        no(INDEX, "a greatest lease", x -> x.greatestLease(0, 0, 0, 0));
    }

    private static void overYear() {
        offices("when the year is over", Checks::over);
        no(STATE, "passing", x -> x.passWeek());
        no(STATE, "a capacity", x -> x.setCapacity(0, 7, 1));
        no(ARGUMENT, "a capacity in week 8", x -> x.setCapacity(0, 8, 1));
        no(STATE, "an ask", x -> x.setAsk(0, 7, 7, 1));
        no(ARGUMENT, "an ask in week 8", x -> x.setAsk(0, 8, 8, 1));
        no(STATE, "a lease", x -> x.lease(0, 0, 1, 7, 7));
        no(STATE, "injured", x -> x.injuredRight(0, 0, 1, 7, 7));
        no(STATE, "greatest lease", x -> x.greatestLease(0, 0, 7, 7));
        no(STATE, "an inflow", x -> x.setInflow(0, 0, 7, 1));
        no(STATE, "a gauge", x -> x.gauge(0, 1));
        no(ARGUMENT, "a gauge of 41", x -> x.gauge(0, 41));
        no(INDEX, "a gauge at place 4", x -> x.gauge(4, 41));
        no(STATE, "a measure", x -> x.measure(0, 1));
        no(ARGUMENT, "a measure above the capacity", x -> x.measure(0, 21));
        no(INDEX, "a measure at place 4", x -> x.measure(4, 99));
        no(ELEMENT, "a witness", x -> x.witnessSize(0, 7));
        no(ELEMENT, "a marked witness", x -> x.markWitness(0, 7));
        no(STATE, "taken", x -> x.takenInMarks(0, 7));
        no(STATE, "helped", x -> x.helpedRight(0, 7));
        no(STATE, "closure", x -> x.closureCost(0, 7));
    }

    // ---------------------------------------------------------------- texts with an error

    /** These two calls empty the buffer and set the error position, and change nothing else. */
    private static void texts() {
        about("a text with an error changes nothing but the buffer and the error position");
        misread("place 3 1;", 0, RiverSeniority::readBasin);
        misread("basin;place 3 1;right 0 1900 1 coins 5;reach 0 0 1 1;", 47, RiverSeniority::readBasin);
        misread("", 0, RiverSeniority::readBasin);
        misread("week + ", 7, x -> x.setDecree(3));
        misread("week week", 5, x -> x.setDecree(0));
    }

    private static void misread(String text, int position, Use use) {
        for (int part = 0; part < Picture.PARTS; part++) {
            RiverSeniority x = middle();
            x.clearText();
            say(x, text);
            due("reading " + text, answer(() -> use.of(x)), ARGUMENT);
            due("error position of " + text, x.errorPosition(), position);
            RiverSeniority y = middle();
            y.clearText();
            alike("what is there then", withoutPosition(x, part), withoutPosition(y, part));
        }
    }

    private static String withoutPosition(RiverSeniority x, int part) {
        return Picture.of(x, part).replaceFirst("errorPosition -?[0-9]+\n", "");
    }
}
