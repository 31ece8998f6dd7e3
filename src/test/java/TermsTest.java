/**
 * The sections under "Terms", sentence by sentence: where a sentence names a boundary, the cases on both
 * sides of it. Texts (section 9) are in TextsTest, decrees (section 3) in DecreesTest.
 */
public final class TermsTest extends Checks {
    private static final String TWO = "basin;place 60 0;place 60 0;";

    public static void main(String[] args) {
        countsOfPlacesAndReaches();
        weeksOfTheYear();
        reservoirs();
        timesOfReaches();
        reachesSideBySideAndInCircles();
        scenarios();
        rightsAtFirst();
        closedRights();
        whatIsAskedFor();
        whatWasAskedFor();
        seniority();
        orderOfAmounts();
        carrying();
        onItsWay();
        planOfAScenario();
        officesWay();
        shortages();
        witnesses();
        leastSets();
        waterIntoSets();
        takenInSets();
        marks();
        leases();
        injuries();
        passing();
        money();
        finish();
    }

    // ---------------------------------------------------------------- 1. Places and reaches

    private static void countsOfPlacesAndReaches() {
        about("a basin has up to 6 places, numbered from 0");
        RiverSeniority x = office("basin;");
        for (int place = 0; place < 6; place++) {
            due("addPlace", x.addPlace(place, place), place);
        }
        refused("the 7th", STATE, () -> x.addPlace(0, 0));
        due("placeCount", x.placeCount(), 6);
        due("the last one", x.storageAt(5, 0), 5);
        refused("place 6", INDEX, () -> x.storageAt(6, 0));
        about("up to 9 reaches, numbered from 0");
        for (int reach = 0; reach < 9; reach++) {
            due("addReach", x.addReach(5, 0, reach, 0), reach);
        }
        refused("the 10th", STATE, () -> x.addReach(5, 0, 1, 0));
        due("reachCount", x.reachCount(), 9);
        due("the last one", x.capacityAt(8, 7), 8);
        refused("reach 9", INDEX, () -> x.capacityAt(9, 7));
        about("each of 9 reaches carries, to the last one of 6 places");
        RiverSeniority y = office("basin;place 60 60;" + "place 0 0;".repeat(5) + "reach 0 5 1 0;".repeat(9)
            + "right 5 1900 0 ask 0 7 20;");
        due("amounts", amounts(y, 0, 0), "9 9 9 9 9 9 6 0");
        due("the last reach", y.sent(8, 0), 1);
        y.setCapacity(8, 0, 5);
        due("5 of it", y.sent(8, 0), 5);
    }

    private static void weeksOfTheYear() {
        about("the year has the weeks 0 to 7; the present week is 0 at first, and 8 when the year is over");
        RiverSeniority x = new RiverSeniority();
        due("at first", x.today(), 0);
        for (int week = 1; week <= 8; week++) {
            due("passWeek", x.passWeek(), week);
            due("today", x.today(), week);
        }
        refused("a week behind the last one", STATE, () -> x.passWeek());
        due("today", x.today(), 8);
        about("weeks less than the present one are over");
        for (int passed = 0; passed < 8; passed++) {
            RiverSeniority y = passed(new RiverSeniority(), passed);
            int today = passed;
            due("the present week " + today, y.setInflow(0, 3, today, 1), 0);
            due("the last week", answer(() -> y.setInflow(0, 3, 7, 2)), today == 7 ? 1 : 0);
            if (today > 0) {
                refused("the week ahead of " + today, STATE, () -> y.setInflow(0, 3, today - 1, 1));
            }
        }
    }

    private static void reservoirs() {
        about("a capacity is 0 to 60, 0 if the place can store nothing");
        RiverSeniority x = office("basin;place 0 0;place 60 60;place 1 0;inflow 0 0 5;inflow 0 1 40;inflow 0 2 2;");
        due("what stores nothing", x.storageAt(0, 1), 0);
        due("runs off", x.runOff(0, 0), 5);
        due("a full reservoir", x.storageAt(1, 1), 60);
        due("its run-off", x.runOff(1, 0), 40);
        due("it stays full", x.storageAt(1, 8), 60);
        due("one unit is stored", x.storageAt(2, 1), 1);
        due("the other one runs off", x.runOff(2, 0), 1);
        about("a present storage is 0 to the capacity");
        due("measure the capacity", x.measure(1, 60), 60);
        due("measure 0", x.measure(1, 0), 60);
        due("storage", x.storageAt(1, 0), 0);
        refused("above it", ARGUMENT, () -> x.measure(2, 2));
        due("of 1", x.measure(2, 1), 0);
    }

    private static void timesOfReaches() {
        about("water that a reach sends in week w arrives in week w plus its time");
        for (int time = 0; time <= 2; time++) {
            RiverSeniority x = office("basin;place 0 0;place 0 0;reach 0 1 50 " + time
                + ";right 1 1900 0 ask 0 7 4;inflow 0 0 0 4;");
            int arrival = 1 + time;
            for (int week = 0; week < 8; week++) {
                due("time " + time + ", week " + week, x.amountAt(0, 0, week), week == arrival ? 4 : 0);
                due("sent", x.sent(0, week), week == 1 ? 4 : 0);
            }
        }
        about("water that would arrive in a week greater than 7 is lost");
        for (int time = 0; time <= 2; time++) {
            RiverSeniority x = office("basin;place 0 0;place 0 0;reach 0 1 9 " + time
                + ";right 1 1900 0 ask 0 7 5;inflow 0 0 5 5 5 5 5 5 5 5;");
            for (int week = 0; week < 8; week++) {
                due("amount, time " + time + ", week " + week, x.amountAt(0, 0, week), week >= time ? 5 : 0);
                due("sent, time " + time + ", week " + week, x.sent(0, week), week + time <= 7 ? 5 : 0);
                due("run-off, time " + time + ", week " + week, x.runOff(0, week), week + time <= 7 ? 0 : 5);
            }
        }
    }

    private static void reachesSideBySideAndInCircles() {
        about("two reaches may lead from and to the same places");
        RiverSeniority x = office("basin;place 9 9;place 0 0;reach 0 1 2 0;right 1 1900 0 ask 0 0 9;");
        due("one", x.amountAt(0, 0, 0), 2);
        due("addReach", x.addReach(0, 1, 2, 0), 1);
        due("two", x.amountAt(0, 0, 0), 4);
        due("addReach", x.addReach(0, 1, 50, 0), 2);
        due("three", x.amountAt(0, 0, 0), 9);
        about("reaches may form circles, also with a time of 0");
        RiverSeniority y = office("basin;place 0 0;place 0 0;place 0 0;reach 0 1 50 0;reach 1 2 50 0;reach 2 0 50 0;"
            + "right 0 1900 0 ask 0 7 9;inflow 0 1 3;");
        due("through two of its reaches", y.amountAt(0, 0, 0), 3);
        due("no water comes of a circle", y.amountAt(0, 0, 1), 0);
        due("the reach from there sends nothing", y.sent(0, 0), 0);
        due("the next one", y.sent(1, 0), 3);
        due("the last one", y.sent(2, 0), 3);
        RiverSeniority z = office("basin;place 0 0;place 0 0;reach 0 1 9 2;reach 1 0 9 2;right 0 1900 0 ask 4 4 6;"
            + "inflow 0 0 7;");
        due("a circle is a way to keep water", z.amountAt(0, 0, 4), 6);
        due("it sends what comes back", z.sent(0, 0), 6);
        due("back", z.sent(1, 2), 6);
        RiverSeniority none = office("basin;place 0 0;place 0 0;reach 0 1 50 0;reach 1 0 50 0;right 0 1900 0 ask 0 7 1;");
        due("a dry circle", none.total(0), 0);
    }

    private static void scenarios() {
        about("there are three scenarios, numbered from 0; an inflow is 0 until it is told");
        RiverSeniority x = office("basin;place 0 0;right 0 1900 0 ask 0 7 20;");
        for (int scenario = 0; scenario < 3; scenario++) {
            for (int week = 0; week < 8; week++) {
                due("setInflow", x.setInflow(scenario, 0, week, 10 + scenario), 0);
                due("inflowAt", x.inflowAt(scenario, 0, week), 10 + scenario);
            }
            due("amounts", amounts(x, scenario, 0), ("" + (10 + scenario) + " ").repeat(8).trim());
        }
        refused("scenario 3", INDEX, () -> x.setInflow(3, 0, 0, 1));
        refused("scenario -1", INDEX, () -> x.amountAt(-1, 0, 0));
        x.addPlace(1, 1);
        due("a new place", x.inflowAt(2, 1, 7), 0);
        about("the office plans and acts by scenario 0");
        RiverSeniority y = office("basin;place 9 0;place 0 0;reach 0 1 9 0;right 1 1900 1 ask 0 0 9;inflow 0 0 2;inflow 1 0 5;"
            + "inflow 2 0 9;");
        due("total", y.total(0), 2);
        due("shortage", y.shortage(0, 0), 7);
        due("sent", y.sent(0, 0), 2);
        y.passWeek();
        due("what it got", y.amountAt(2, 0, 0), 2);
        due("balance", y.balance(0), -2);
        due("storage", y.storageAt(0, 1), 0);
    }

    // ---------------------------------------------------------------- 2. Rights

    private static void rightsAtFirst() {
        about("there are up to 10 rights, numbered from 0 in the order in which they come");
        RiverSeniority x = office("basin;place 60 60;");
        for (int right = 0; right < 10; right++) {
            due("addRight", x.addRight(0, 2099 - right, 0), right);
        }
        refused("the 11th", STATE, () -> x.addRight(0, 1900, 0));
        due("rightCount", x.rightCount(), 10);
        for (int right = 0; right < 10; right++) {
            due("rank", x.rankOf(right), 9 - right);
        }
        about("a balance is 0 at first, an ask 0, and there is no decree");
        RiverSeniority y = office("basin;place 60 60;right 0 1900 0;");
        due("balance", y.balance(0), 0);
        due("asks", asks(y, 0, 0), "0 0 0 0 0 0 0 0");
        refused("decree", ELEMENT, () -> y.decreeValue(0, 0, 0));
        due("lessor", y.lessorOf(0), NONE);
        due("not abandoned", y.setAsk(0, 0, 7, 20), 8);
        due("not closed", asks(y, 0, 0), "20 20 20 20 20 20 20 20");
        due("gets", amounts(y, 0, 0), "20 20 20 0 0 0 0 0");
    }

    private static void closedRights() {
        about("a right is closed as long as its balance is below 0");
        String text = "basin;place 60 60;right 0 1900 1 ask 0 7 5 coins ";
        RiverSeniority x = passed(office(text + "5;"), 1);
        due("balance", x.balance(0), 0);
        due("open with 0", x.askedAt(0, 0, 1), 5);
        RiverSeniority y = passed(office(text + "4;"), 1);
        due("balance", y.balance(0), -1);
        due("closed with -1", asks(y, 0, 0), "5 0 0 0 0 0 0 0");
        due("closed in each scenario", asks(y, 2, 0), "5 0 0 0 0 0 0 0");
        y.passWeek();
        due("it costs nothing then", y.balance(0), -1);
        y.fund(0, 1);
        due("open again", asks(y, 0, 0), "5 0 5 5 5 5 5 5");
        decree(y, 0, "9");
        due("with a decree", y.askedAt(0, 0, 2), 5);
        RiverSeniority z = office("basin;place 60 60;right 0 1900 1 ask 0 7 5 decree 3 coins 2;");
        z.passWeek();
        due("closed, with a decree", asks(z, 0, 0), "3 0 0 0 0 0 0 0");
    }

    private static void whatIsAskedFor() {
        about("the lesser one of the ask and the value of the decree, but at least 0");
        RiverSeniority x = office("basin;place 60 60;right 0 1900 0 ask 0 7 5;inflow 1 0 9;inflow 2 0 0 1;");
        decree(x, 0, "5");
        due("as much", x.askedAt(0, 0, 0), 5);
        decree(x, 0, "6");
        due("one more", x.askedAt(0, 0, 0), 5);
        decree(x, 0, "4");
        due("one less", x.askedAt(0, 0, 0), 4);
        decree(x, 0, "0");
        due("0", x.askedAt(0, 0, 0), 0);
        decree(x, 0, "0-1");
        due("below 0", x.askedAt(0, 0, 0), 0);
        decree(x, 0, "2*4*8*32*1024*1024");
        due("the least int", x.askedAt(0, 0, 0), 0);
        decree(x, 0, "2*4*8*32*1024*1024-1");
        due("the greatest int", x.askedAt(0, 0, 0), 5);
        decree(x, 0, "flow(0)+week");
        due("by scenario 0 and the week", asks(x, 0, 0), "0 1 2 3 4 5 5 5");
        due("by scenario 1", asks(x, 1, 0), "5 1 2 3 4 5 5 5");
        due("by scenario 2", asks(x, 2, 0), "0 2 2 3 4 5 5 5");
        x.abandon(0);
        due("abandoned", asks(x, 1, 0), "0 0 0 0 0 0 0 0");
    }

    private static void whatWasAskedFor() {
        about("what was asked for in a week that is over is what was asked for by scenario 0 as it passed, in every scenario");
        RiverSeniority x = office("basin;place 60 60;right 0 1900 0 ask 0 7 9 decree flow(0);right 0 1910 9 ask 0 7 1;"
            + "inflow 0 0 3;inflow 1 0 4;inflow 2 0 5;");
        due("ahead of it", x.askedAt(2, 0, 0), 5);
        x.passWeek();
        for (int scenario = 0; scenario < 3; scenario++) {
            due("scenario " + scenario, x.askedAt(scenario, 0, 0), 3);
        }
        decree(x, 0, "");
        due("without the decree", asks(x, 1, 0), "3 9 9 9 9 9 9 9");
        x.setAsk(0, 1, 1, 2);
        x.passWeek();
        x.abandon(0);
        due("abandoned later", asks(x, 0, 0), "3 2 0 0 0 0 0 0");
        due("closed then", asks(x, 0, 1), "1 0 0 0 0 0 0 0");
        x.fund(1, 1000);
        due("funded later", asks(x, 0, 1), "1 0 1 1 1 1 1 1");
        about("0 if the right was not there then");
        x.addRight(0, 1800, 0);
        x.setAsk(2, 2, 7, 4);
        due("a new right", asks(x, 1, 2), "0 0 4 4 4 4 4 4");
        due("amounts", amounts(x, 1, 2), "0 0 4 4 4 4 4 4");
        due("the first shortage", x.shortage(2, 0), 0);
        x.setAsk(1, 2, 7, 9);
        x.lease(1, 0, 4, 2, 7);
        due("a leased right", asks(x, 0, 3), "0 0 4 4 4 4 4 4");
    }

    private static void seniority() {
        about("a right is older than another one if its year is less");
        RiverSeniority x = office("basin;place 60 60;right 0 2099 0;right 0 2098 0;right 0 1800 0;right 0 1801 0;");
        due("2099", x.rankOf(0), 3);
        due("2098", x.rankOf(1), 2);
        due("1800", x.rankOf(2), 0);
        due("1801", x.rankOf(3), 1);
        about("of two rights with the same year the one with the lesser root is older, then the one with the lesser number");
        String three = "basin;place 60 60;right 0 1900 0 ask 0 7 9;right 0 1900 0 ask 0 7 9;right 0 1900 0 ask 0 7 9;"
            + "inflow 0 0 40;inflow 1 0 40;inflow 2 0 40;";
        RiverSeniority y = office(three);
        due("lease of 0", y.lease(0, 0, 5, 0, 0), 3);
        due("lease of 1", y.lease(1, 0, 5, 0, 0), 4);
        due("lease of 0 again", y.lease(0, 0, 4, 0, 0), 5);
        due("lease of the lease of 0", y.lease(3, 0, 2, 0, 0), 6);
        due("lease of that", y.lease(6, 0, 1, 0, 0), 7);
        int[] ranks = {0, 5, 7, 1, 6, 2, 3, 4};
        for (int right = 0; right < 8; right++) {
            due("rank of " + right, y.rankOf(right), ranks[right]);
        }
        int[] lessors = {-1, -1, -1, 0, 1, 0, 3, 6};
        for (int right = 0; right < 8; right++) {
            due("lessor of " + right, y.lessorOf(right), lessors[right]);
        }
        y.addRight(0, 1900, 0);
        due("a new right has a root of its own", y.rankOf(8), 8);
    }

    private static void orderOfAmounts() {
        about("all amounts of an older right are ahead of those of a younger right");
        RiverSeniority x = office("basin;place 60 4;right 0 1901 0 ask 0 0 4;right 0 1900 0 ask 7 7 3;");
        due("the older one's last week", x.amountAt(0, 1, 7), 3);
        due("the younger one's first week", x.amountAt(0, 0, 0), 1);
        about("of one right the amount of a lesser week is ahead");
        RiverSeniority y = office("basin;place 60 5;right 0 1900 0 ask 0 7 2;");
        due("amounts", amounts(y, 0, 0), "2 2 1 0 0 0 0 0");
        y.passWeek();
        y.measure(0, 2);
        due("amounts", amounts(y, 0, 0), "2 2 0 0 0 0 0 0");
    }

    // ---------------------------------------------------------------- 4. What can be carried

    private static void carrying() {
        about("a sending is at most the capacity of the reach in its week");
        RiverSeniority x = office("basin;place 0 0;place 0 0;reach 0 1 9 1 week 0 2 week 2 0 week 6 1;right 1 1900 0 ask 0 7 5;"
            + "inflow 0 0 5 5 5 5 5 5 5 5;");
        due("amounts", amounts(x, 0, 0), "0 2 5 0 5 5 5 1");
        x.setCapacity(0, 1, 4);
        due("week 1", amounts(x, 0, 0), "0 2 4 0 5 5 5 1");
        about("a reach of capacity 50 sends 50, and no more");
        RiverSeniority wide = office("basin;place 60 60;place 0 0;reach 0 1 50 0;right 1 1900 0 ask 0 0 20;right 1 1900 0 ask 0 0 20;"
            + "right 1 1900 0 ask 0 0 20;");
        due("the third right", wide.amountAt(0, 2, 0), 10);
        due("sent", wide.sent(0, 0), 50);
        about("a storage is at most the capacity of the place, at the end of each week");
        RiverSeniority y = office("basin;place 3 0;right 0 1900 0 ask 1 1 9;right 0 1901 0 ask 0 0 9;inflow 0 0 8;");
        due("what was stored", y.amountAt(0, 0, 1), 3);
        due("what was not", y.amountAt(0, 1, 0), 5);
        RiverSeniority z = office("basin;place 3 0;right 0 1900 0 ask 7 7 9;inflow 0 0 8 0 0 0 0 0 1 1;");
        due("through all weeks", z.amountAt(0, 0, 7), 4);
        about("the present storage is there in the present week");
        RiverSeniority now = passed(office("basin;place 9 9;right 0 1900 0 ask 2 2 9;"), 2);
        due("kept", now.amountAt(0, 0, 2), 9);
        now.measure(0, 4);
        due("measured", now.amountAt(0, 0, 2), 4);
        due("stored at the end", now.storageAt(0, 3), 0);
        about("nothing is there of itself");
        due("no water", office("basin;place 60 0;right 0 1900 0 ask 0 7 20;").total(0), 0);
    }

    private static void onItsWay() {
        about("what was sent in weeks that are over arrives, in every scenario");
        String text = "basin;place 0 0;place 0 0;reach 0 1 9 2;right 1 1900 0 ask 2 2 6;inflow 0 0 6;";
        RiverSeniority x = office(text);
        due("planned by scenario 0", x.amountAt(0, 0, 2), 6);
        due("by scenario 1 there is none", x.amountAt(1, 0, 2), 0);
        x.passWeek();
        due("one week on, scenario 1", x.amountAt(1, 0, 2), 6);
        x.setCapacity(0, 2, 0);
        x.passWeek();
        due("two weeks on, scenario 2", x.amountAt(2, 0, 2), 6);
        x.addRight(0, 1800, 0);
        due("asks of others do not hold it back", x.setAsk(1, 2, 2, 20), 1);
        due("it arrives all the same", x.amountAt(0, 0, 2), 6);
        x.setAsk(0, 2, 2, 4);
        due("what is not taken runs off", x.runOff(1, 2), 2);
        x.passWeek();
        due("it has arrived", x.amountAt(1, 0, 2), 4);
        due("once only", x.runOff(1, 3), 0);
        RiverSeniority y = office(text);
        y.passWeek();
        y.setAsk(0, 2, 2, 0);
        due("the sending is done", y.sent(0, 0), 6);
        due("its water is lost", y.runOff(1, 2), 6);
        about("a reach that comes later has nothing on its way");
        RiverSeniority z = passed(office("basin;place 9 9;place 0 0;right 1 1900 0 ask 1 2 9;"), 1);
        z.addReach(0, 1, 9, 1);
        due("week 1", z.amountAt(0, 0, 1), 0);
        due("week 2", z.amountAt(0, 0, 2), 9);
        due("week 0", z.sent(0, 0), 0);
    }

    // ---------------------------------------------------------------- 5. The plan and the office's way

    private static void planOfAScenario() {
        about("the plan is the lexicographically greatest of all amounts that can be carried");
        RiverSeniority x = office("basin;place 0 0;place 0 0;place 0 0;reach 0 1 4 0;reach 0 2 4 0;"
            + "right 1 1900 0 ask 0 0 3;right 2 1910 0 ask 0 0 4;right 0 1920 0 ask 0 0 4;inflow 0 0 5;");
        due("the oldest", x.amountAt(0, 0, 0), 3);
        due("the second", x.amountAt(0, 1, 0), 2);
        due("the youngest", x.amountAt(0, 2, 0), 0);
        about("water comes through all places and weeks");
        RiverSeniority far = office("basin;place 60 2;" + "place 60 0;".repeat(5) + "reach 0 1 9 0;reach 1 2 9 0;reach 2 3 9 0;"
            + "reach 3 4 9 0;reach 4 5 9 0;" + "right 5 1900 0 ask 7 7 1;".repeat(3));
        due("the first unit", far.amountAt(0, 0, 7), 1);
        due("the second unit", far.amountAt(0, 1, 7), 1);
        due("there is no third one", far.amountAt(0, 2, 7), 0);
        due("all nodes hold it down", far.markWitness(2, 7), 2);
        due("all nodes", far.clearMarks(), 48);
        about("an older amount takes another way, if a younger one needs its own");
        RiverSeniority y = office("basin;place 0 0;place 0 0;place 0 0;reach 0 2 3 0;reach 1 2 3 0;"
            + "right 2 1900 0 ask 0 0 3;right 0 1910 0 ask 0 0 2;right 1 1920 0 ask 0 0 2;inflow 0 0 3;inflow 0 1 3;");
        due("the oldest", y.amountAt(0, 0, 0), 3);
        due("the second", y.amountAt(0, 1, 0), 2);
        due("the youngest", y.amountAt(0, 2, 0), 1);
        about("each amount is at most what its right asks for");
        RiverSeniority z = office("basin;place 60 60;right 0 1900 0 ask 0 7 20 decree 7;right 0 1910 0 ask 0 7 1;");
        due("by its decree", amounts(z, 0, 0), "7 7 7 7 7 7 7 7");
        due("what is left", amounts(z, 0, 1), "1 1 1 1 0 0 0 0");
        about("the amount in a week that is over is what the right got then, in every scenario");
        z.setInflow(1, 0, 0, 40);
        z.passWeek();
        z.abandon(0);
        for (int scenario = 0; scenario < 3; scenario++) {
            due("scenario " + scenario, amounts(z, scenario, 0), "7 0 0 0 0 0 0 0");
        }
        about("when the year is over, there is nothing to plan");
        RiverSeniority over = over();
        String row = amounts(over, 0, 0);
        due("the same in scenario 2", amounts(over, 2, 0), row);
        over.abandon(0);
        due("what was got stays", amounts(over, 0, 0), row);
        due("no errors", over.errors(), 0);
    }

    private static void officesWay() {
        about("of the reaches of a week the lesser number sends as little as possible first");
        RiverSeniority x = office("basin;place 0 0;place 0 0;reach 0 1 9 0;reach 0 1 9 0;right 1 1900 0 ask 0 0 5;inflow 0 0 9;");
        due("reach 0", x.sent(0, 0), 0);
        due("reach 1", x.sent(1, 0), 5);
        about("the reaches of the present week are settled ahead of those of the next one");
        RiverSeniority y = office("basin;place 9 9;place 0 0;reach 0 1 9 0;reach 0 1 9 1;right 1 1900 0 ask 1 1 5;");
        due("reach 1 in week 0 is settled first", y.sent(1, 0), 0);
        due("reach 0 in week 1 is left", y.sent(0, 1), 5);
        y.setCapacity(0, 1, 3);
        due("reach 1 in week 0", y.sent(1, 0), 2);
        due("reach 0 in week 1", y.sent(0, 1), 3);
        due("stored ahead", y.storageAt(0, 1), 7);
        due("stored behind", y.storageAt(0, 2), 4);
        about("together with the sendings that were settled ahead, the plan can be carried");
        RiverSeniority z = office("basin;place 0 0;place 0 0;place 0 0;reach 0 1 5 0;reach 1 2 5 0;reach 0 2 3 0;"
            + "right 2 1900 0 ask 0 0 4;inflow 0 0 9;");
        due("the first one of the long way", z.sent(0, 0), 1);
        due("the second one", z.sent(1, 0), 1);
        due("the short way", z.sent(2, 0), 3);
        due("runs off", z.runOff(0, 0), 5);
        about("a sending is settled in the same way wherever it is from, and if the plan leaves a shortage");
        for (int from = 0; from < 6; from++) {
            int to = from == 0 ? 5 : from - 1;
            RiverSeniority every = office("basin;" + "place 0 0;".repeat(6) + ("reach " + from + " " + to + " 4 0;").repeat(3)
                + "right " + to + " 1900 0 ask 0 7 9;inflow 0 " + from + " 6 0 0 6 0 0 0 6;");
            for (int week = 0; week < 8; week++) {
                boolean comes = week == 0 || week == 3 || week == 7;
                due("from " + from + ", reach 0 in " + week, every.sent(0, week), 0);
                due("from " + from + ", reach 1 in " + week, every.sent(1, week), comes ? 2 : 0);
                due("from " + from + ", reach 2 in " + week, every.sent(2, week), comes ? 4 : 0);
            }
        }
        about("water that must be sent is there for no other reach");
        RiverSeniority twice = office("basin;place 0 0;place 0 0;place 0 0;place 0 0;reach 0 1 9 0;reach 2 3 9 0;reach 0 3 9 0;"
            + "right 1 1900 0 ask 0 0 5;right 3 1910 0 ask 0 0 3;inflow 0 0 5;inflow 0 2 3;");
        due("reach 0", twice.sent(0, 0), 5);
        due("reach 1", twice.sent(1, 0), 3);
        due("reach 2", twice.sent(2, 0), 0);
        twice.setInflow(0, 0, 0, 6);
        due("reach 1, with one unit to spare", twice.sent(1, 0), 2);
        due("reach 2, with one unit to spare", twice.sent(2, 0), 1);
        about("a sending that is settled is the same for all that are settled later");
        RiverSeniority ring = office("basin;" + "place 0 0;".repeat(6) + "reach 0 1 9 0;reach 3 4 9 0;reach 1 5 9 0;reach 2 1 9 0;"
            + "reach 0 4 9 0;reach 4 5 9 0;right 4 1900 0 ask 0 0 4;right 5 1910 0 ask 0 0 4;inflow 0 0 4;inflow 0 2 4;inflow 0 3 4;");
        int[] sendings = {0, 0, 4, 4, 4, 0};
        for (int reach = 0; reach < 6; reach++) {
            due("reach " + reach, ring.sent(reach, 0), sendings[reach]);
        }
        about("a place stores as much as it can, but at most its capacity; the rest runs off");
        RiverSeniority s = office("basin;place 4 3;right 0 1900 0 ask 1 1 1;inflow 0 0 1 1 1;");
        due("week 1", s.storageAt(0, 1), 4);
        due("run-off 0", s.runOff(0, 0), 0);
        due("run-off 1", s.runOff(0, 1), 0);
        due("run-off 2", s.runOff(0, 2), 1);
        due("at the end", s.storageAt(0, 8), 4);
        about("nothing is sent to be stored elsewhere");
        RiverSeniority f = office("basin;place 2 2;place 60 0;reach 0 1 9 0;inflow 0 0 9;");
        due("sent", f.sent(0, 0), 0);
        due("run-off", f.runOff(0, 0), 9);
        due("elsewhere", f.storageAt(1, 8), 0);
    }

    private static void shortages() {
        about("a shortage is what is asked for by scenario 0 less the amount by scenario 0");
        RiverSeniority x = office("basin;place 0 0;right 0 1900 9 ask 0 7 5 decree 6-week;inflow 0 0 5 4 3 1 0 0 0 0;"
            + "inflow 1 0 0;");
        int[] due = {0, 1, 1, 2, 2, 1, 0, 0};
        for (int week = 0; week < 8; week++) {
            due("week " + week, x.shortage(0, week), due[week]);
        }
        x.passWeek();
        due("closed", x.shortage(0, 1), 0);
        due("mean of a closed right", x.meanShortage(), 0.0);
        RiverSeniority z = office("basin;place 0 0;right 0 1900 0 ask 0 7 9 decree flow(0)+2;inflow 0 0 3;inflow 1 0 6;");
        due("by scenario 0", z.shortage(0, 0), 2);
        RiverSeniority y = passed(office("basin;place 0 0;right 0 1900 0 ask 0 7 5;inflow 0 0 1;"), 1);
        y.abandon(0);
        due("a week that is over", y.shortage(0, 0), 4);
        due("abandoned", y.shortage(0, 1), 0);
    }

    // ---------------------------------------------------------------- 6. Witnesses

    private static void witnesses() {
        about("the water into a witness is what is taken in it up to the amount");
        RiverSeniority x = new RiverSeniority();
        int witnesses = 0;
        for (int right = 0; right < 4; right++) {
            for (int week = 0; week < 8; week++) {
                if (x.shortage(right, week) > 0) {
                    int water = x.markWitness(right, week);
                    due("water into it", x.waterIntoMarks(), water);
                    due("taken up to " + right + ", " + week, x.takenInMarks(right, week), water);
                    due("size", x.witnessSize(right, week), x.clearMarks());
                    witnesses++;
                }
            }
        }
        due("there are witnesses", witnesses > 3, true);
        about("a witness has the node of its amount");
        RiverSeniority y = office("basin;place 0 0;right 0 1900 0 ask 7 7 1;");
        due("a node alone", y.witnessSize(0, 7), 1);
        due("no water", y.markWitness(0, 7), 0);
        due("the last week", y.isMarked(0, 7), true);
        about("older amounts of other weeks and rights are taken in it, too, younger ones are not");
        RiverSeniority z = office("basin;place 9 6;right 0 1900 0 ask 3 3 4;right 0 1910 0 ask 0 0 3;right 0 1920 0 ask 1 1 5;");
        due("the weeks 0 to 3", z.witnessSize(1, 0), 4);
        due("water", z.markWitness(1, 0), 6);
        due("taken", z.takenInMarks(1, 0), 6);
        due("the youngest in week 1", z.witnessSize(2, 1), 4);
        due("amount 0 has a witness, too", z.amountAt(0, 2, 1), 0);
    }

    private static void leastSets() {
        about("the witness is the least set: nodes from which no water could come are not in it");
        RiverSeniority x = office("basin;place 0 0;place 0 0;place 0 0;reach 0 1 2 0;reach 1 2 9 0;right 2 1900 0 ask 0 0 5;"
            + "inflow 0 0 9;");
        due("the full reach bounds it", x.witnessSize(0, 0), 2);
        due("water", x.markWitness(0, 0), 2);
        due("place 0 is not in it", x.isMarked(0, 0), false);
        due("place 1 is", x.isMarked(1, 0), true);
        x.setInflow(0, 0, 0, 1);
        due("with a reach that is not full", x.witnessSize(0, 0), 3);
        due("water", x.markWitness(0, 0), 1);
        x.setInflow(0, 0, 0, 2);
        due("a reach that is full, and no more water", x.witnessSize(0, 0), 2);
        about("a full reservoir bounds a witness as a full reach does");
        RiverSeniority y = office("basin;place 3 3;right 0 1900 0 ask 1 1 9;inflow 0 0 5;");
        due("full", y.witnessSize(0, 1), 1);
        due("water", y.markWitness(0, 1), 3);
        y.measure(0, 0);
        y.setInflow(0, 0, 0, 2);
        due("not full", y.witnessSize(0, 1), 2);
        due("water", y.markWitness(0, 1), 2);
        about("a witness has nodes of weeks that are not over alone");
        RiverSeniority z = passed(office("basin;place 9 2;right 0 1900 0 ask 1 1 9;"), 1);
        due("the present week", z.witnessSize(0, 1), 1);
        due("its storage", z.markWitness(0, 1), 2);
    }

    private static void waterIntoSets() {
        about("the water into a set: inflows by scenario 0, present storages, what arrives, reaches and reservoirs into it");
        RiverSeniority x = office("basin;place 7 3;place 5 2;reach 0 1 4 0 week 7 6;reach 0 1 3 2 week 5 8;reach 1 0 2 1;"
            + "inflow 0 0 1 2 3 4 5 6 7 8;inflow 1 0 40;inflow 0 1 10;");
        x.mark(0, 0, true);
        due("inflow and present storage", x.waterIntoMarks(), 1 + 3);
        x.clearMarks();
        x.mark(0, 7, true);
        due("in the last week: inflow, reservoir and reach", x.waterIntoMarks(), 8 + 7 + 2);
        x.mark(1, 6, true);
        due("a reach from inside does not count", x.waterIntoMarks(), 8 + 7 + 5 + 4 + 3);
        x.clearMarks();
        x.mark(1, 7, true);
        due("capacities of the weeks of sending", x.waterIntoMarks(), 5 + 6 + 8);
        x.mark(1, 6, true);
        due("a reservoir inside does not count", x.waterIntoMarks(), 6 + 8 + 5 + 4 + 3);
        x.clearMarks();
        x.mark(1, 0, true);
        due("no reach of earlier weeks", x.waterIntoMarks(), 10 + 2 + 4);
        for (int place = 0; place < 2; place++) {
            for (int week = 0; week < 8; week++) {
                x.mark(place, week, true);
            }
        }
        due("all nodes", x.waterIntoMarks(), 36 + 10 + 3 + 2);
        about("the last place in the last week is a node as others are");
        RiverSeniority last = office("basin;" + "place 0 0;".repeat(6) + "right 5 1900 0 ask 7 7 9;inflow 0 5 0 0 0 0 0 0 0 5;");
        due("amount", last.amountAt(0, 0, 7), 5);
        due("mark", last.mark(5, 7, true), false);
        due("water", last.waterIntoMarks(), 5);
        due("taken", last.takenInMarks(0, 7), 5);
        due("witness", last.markWitness(0, 7), 5);
        due("its mark", last.isMarked(5, 7), true);
        about("the water into a set is that of the basin as it is, whatever was asked ahead of it");
        RiverSeniority first = new RiverSeniority();
        first.mark(0, 0, true);
        first.mark(2, 1, true);
        due("of a new object", first.waterIntoMarks(), 6 + 8 + 8 + 10);
        first.closureCost(1, 0);
        due("behind a question of what would be", first.waterIntoMarks(), 6 + 8 + 8 + 10);
        first.amountAt(2, 0, 0);
        due("behind a question of another scenario", first.waterIntoMarks(), 6 + 8 + 8 + 10);
        about("what was sent in weeks that are over and arrives is water into a set");
        RiverSeniority y = office("basin;place 9 9;place 0 0;reach 0 1 4 2;right 1 1900 0 ask 2 2 3;");
        y.passWeek();
        y.mark(1, 2, true);
        due("what arrives, not the capacity", y.waterIntoMarks(), 3);
        y.passWeek();
        due("in the present week", y.waterIntoMarks(), 3);
        y.mark(1, 1, true);
        due("nodes of weeks that are over do not count", y.waterIntoMarks(), 3);
        y.passWeek();
        due("all are over", y.waterIntoMarks(), 0);
    }

    private static void takenInSets() {
        about("what is taken in a set up to an amount: the amounts whose nodes are in it, this one and those ahead of it");
        RiverSeniority x = office("basin;place 60 60;place 0 0;right 0 1900 0 ask 0 7 2;right 0 1910 0 ask 0 7 1;"
            + "right 1 1905 0 ask 0 7 3;inflow 0 1 1 1 1 1 1 1 1 1;");
        x.mark(0, 0, true);
        x.mark(0, 7, true);
        due("this one alone", x.takenInMarks(0, 0), 2);
        due("week 6", x.takenInMarks(0, 6), 2);
        due("week 7", x.takenInMarks(0, 7), 4);
        due("an amount outside of the set", x.takenInMarks(2, 0), 4);
        due("the younger one", x.takenInMarks(1, 0), 5);
        due("its last week", x.takenInMarks(1, 7), 6);
        x.mark(1, 3, true);
        due("another place", x.takenInMarks(2, 2), 4);
        due("its node", x.takenInMarks(2, 3), 5);
        due("the older one is not touched by it", x.takenInMarks(0, 7), 4);
        x.clearMarks();
        due("no marks", x.takenInMarks(1, 7), 0);
    }

    private static void marks() {
        about("each place can bear a mark in each week from 0 to 7, also in weeks that are over");
        RiverSeniority x = office("basin;" + "place 1 1;".repeat(6));
        for (int place = 0; place < 6; place++) {
            for (int week = 0; week < 8; week++) {
                due("mark", x.mark(place, week, true), false);
            }
        }
        due("all of them", x.clearMarks(), 48);
        due("none is left", x.isMarked(5, 7), false);
        RiverSeniority over = over();
        over.mark(0, 0, true);
        due("when the year is over", over.mark(3, 7, true), false);
        due("two", over.clearMarks(), 2);
        about("marks belong to no branch, and stay whatever happens to the basin");
        RiverSeniority y = new RiverSeniority();
        y.mark(3, 7, true);
        y.mark(1, 0, true);
        y.createBranch();
        y.switchBranch(1);
        due("in another branch", y.isMarked(3, 7), true);
        y.mark(2, 2, true);
        y.passWeek();
        due("a week that is over", y.isMarked(1, 0), true);
        y.undo();
        y.switchBranch(0);
        due("back", y.isMarked(2, 2), true);
        say(y, "basin;");
        y.readBasin();
        due("no place is there", y.waterIntoMarks(), 0);
        y.addPlace(5, 5);
        y.addPlace(6, 6);
        due("at the number of its place", y.isMarked(1, 0), true);
        due("it counts again", y.waterIntoMarks(), 6);
        y.undo();
        due("with those that do not count", y.clearMarks(), 3);
        about("markWitness takes all marks away, also those that do not count");
        RiverSeniority z = office("basin;place 0 0;place 0 0;");
        z.mark(1, 3, true);
        z.mark(0, 0, true);
        say(z, "basin;place 0 0;right 0 1900 0 ask 0 7 1;");
        z.readBasin();
        z.passWeek();
        due("markWitness", z.markWitness(0, 1), 0);
        due("a week that is over", z.isMarked(0, 0), false);
        z.addPlace(0, 0);
        due("a place that was not there", z.isMarked(1, 3), false);
        due("the witness alone", z.clearMarks(), 1);
    }

    // ---------------------------------------------------------------- 7. Leases

    private static void leases() {
        about("a lease: the lessor asks for less by the amount, a new right asks for it");
        RiverSeniority x = office("basin;place 60 60;place 60 60;right 0 1900 7 coins 9 ask 0 7 20 decree 99;inflow 0 0 40;");
        due("20 of 20 in the last week", x.lease(0, 1, 20, 7, 7), 1);
        due("asks of the lessor", asks(x, 0, 0), "20 20 20 20 20 20 20 0");
        due("asks of the new right", asks(x, 0, 1), "0 0 0 0 0 0 0 20");
        due("1 in all weeks but the last", x.lease(0, 0, 1, 0, 6), 2);
        due("asks of the lessor", asks(x, 0, 0), "19 19 19 19 19 19 19 0");
        due("asks of the new right", asks(x, 0, 2), "1 1 1 1 1 1 1 0");
        due("lessor", x.lessorOf(2), 0);
        due("balance", x.balance(2), 0);
        due("the lessor's balance", x.balance(0), 9);
        refused("without a decree", ELEMENT, () -> x.decreeValue(0, 2, 0));
        due("with the price and the year of the lessor", written(x).contains("right 0 1900 7 ask 0 6 1;"), true);
        due("at its place", written(x).contains("right 1 1900 7 ask 7 7 20;"), true);
        about("a leased right can be a lessor itself");
        due("lease of the lease", x.lease(1, 0, 20, 7, 7), 3);
        due("its lessor", x.lessorOf(3), 1);
        due("asks of the first lease", asks(x, 0, 1), "0 0 0 0 0 0 0 0");
        x.undo();
        due("undone", asks(x, 0, 1), "0 0 0 0 0 0 0 20");
        x.undo();
        x.undo();
        due("all undone", asks(x, 0, 0), "20 20 20 20 20 20 20 20");
        due("one right", x.rightCount(), 1);
        about("the leased right pays by the price of the lessor, with a balance of its own");
        x.redo();
        x.redo();
        x.passWeek();
        due("it", x.balance(2), -7);
        due("the lessor", x.balance(0), 9 - 7 * 19);
    }

    private static void injuries() {
        about("a lease injures a right if in some week that is not over, also one outside of the lease, it gets less");
        // The lessor's water of week 0 is taken at place 1, which has water in week 0 alone, and stores it for right 1.
        RiverSeniority x = office("basin;place 0 0;place 9 0;right 0 1900 0 ask 0 0 5;right 1 1910 0 ask 7 7 4;"
            + "inflow 0 0 5;inflow 0 1 4;inflow 1 1 4;inflow 2 1 4;");
        due("in week 7", x.injuredRight(0, 1, 1, 0, 0), 1);
        refused("not admitted", STATE, () -> x.lease(0, 1, 1, 0, 0));
        for (int scenario = 0; scenario < 3; scenario++) {
            x.setInflow(scenario, 1, 7, 3);
        }
        due("as much as is to spare", x.injuredRight(0, 1, 3, 0, 0), NONE);
        due("one unit more", x.injuredRight(0, 1, 4, 0, 0), 1);
        due("greatest", x.greatestLease(0, 1, 0, 0), 3);
        injuriesByWeeks();
        about("a lease that injures some right in some scenario is not admitted");
        x.setInflow(2, 1, 7, 2);
        due("in the last scenario alone", x.injuredRight(0, 1, 3, 0, 0), 1);
        refused("lease", STATE, () -> x.lease(0, 1, 3, 0, 0));
        due("two are admitted", x.lease(0, 1, 2, 0, 0), 2);
        about("the lessor and the new right are not injured, whatever they lose");
        RiverSeniority y = office("basin;place 0 0;place 0 0;right 0 1900 0 ask 0 0 5;right 0 1910 0 ask 0 0 1;"
            + "inflow 0 0 5;inflow 1 0 9;inflow 2 0 9;");
        due("a dry place", y.injuredRight(0, 1, 5, 0, 0), NONE);
        due("lease", y.lease(0, 1, 5, 0, 0), 2);
        due("the lessor gets nothing", y.total(0), 0);
        due("nor does the new right", y.total(2), 0);
        due("the younger one gets more", y.total(1), 1);
        about("weeks that are over do not count");
        RiverSeniority z = office("basin;place 0 0;place 9 0;right 0 1900 0 ask 0 7 5;right 1 1910 0 ask 0 0 4;inflow 0 1 4 4;");
        z.passWeek();
        due("what was got stays", z.injuredRight(0, 1, 5, 1, 1), NONE);
    }

    private static void injuriesByWeeks() {
        about("a lease is for the weeks from the first to the last, and injures in these");
        int[][] spans = {{2, 5}, {0, 0}, {7, 7}, {0, 7}, {3, 4}};
        for (int scarce = 0; scarce < 8; scarce++) {
            StringBuilder inflows = new StringBuilder();
            for (int week = 0; week < 8; week++) {
                inflows.append(week == scarce ? " 1" : " 2");
            }
            String text = "basin;place 60 60;place 0 0;right 0 1900 0 ask 0 7 1;right 1 1910 0 ask 0 7 1;inflow 0 1 3 3 3 3 3 3 3 3;"
                + "inflow 1 1 3 3 3 3 3 3 3 3;inflow 2 1" + inflows + ";";
            for (int[] span : spans) {
                boolean injures = span[0] <= scarce && scarce <= span[1];
                String weeks = span[0] + " to " + span[1] + ", scarce in " + scarce;
                due("injured from " + weeks, office(text).injuredRight(0, 1, 1, span[0], span[1]), injures ? 1 : NONE);
                due("greatest from " + weeks, office(text).greatestLease(0, 1, span[0], span[1]), injures ? 0 : 1);
                due("lease from " + weeks, answer(() -> office(text).lease(0, 1, 1, span[0], span[1])), injures ? STATE : 2);
            }
        }
        about("the lessor asks for as much in each of these weeks");
        for (int week = 0; week < 8; week++) {
            String text = "basin;place 60 60;right 0 1900 0 ask 0 7 9 ask " + week + " " + week + " 4;";
            for (int[] span : spans) {
                int most = span[0] <= week && week <= span[1] ? 4 : 9;
                String weeks = span[0] + " to " + span[1] + ", less in " + week;
                due("greatest from " + weeks, office(text).greatestLease(0, 0, span[0], span[1]), most);
                due("lease from " + weeks, answer(() -> office(text).lease(0, 0, 5, span[0], span[1])), most == 4 ? STATE : 1);
                due("injured from " + weeks, answer(() -> office(text).injuredRight(0, 0, 5, span[0], span[1])), most == 4 ? STATE : NONE);
            }
        }
    }

    // ---------------------------------------------------------------- 8. Weeks that pass, money

    private static void passing() {
        about("as a week passes, its amounts are given and the office's way of this week is done");
        RiverSeniority x = office("basin;place 20 10;place 5 0;reach 0 1 4 1;right 1 1900 0 ask 1 7 3;right 0 1910 0 ask 0 7 2;"
            + "inflow 0 0 1 0 0 0 0 0 0 40;");
        RiverSeniority y = office("basin;place 20 10;place 5 0;reach 0 1 4 1;right 1 1900 0 ask 1 7 3;right 0 1910 0 ask 0 7 2;"
            + "inflow 0 0 1 0 0 0 0 0 0 40;");
        for (int week = 0; week < 8; week++) {
            due("today", y.passWeek(), week + 1);
            due("amount 0 in " + week, y.amountAt(0, 0, week), x.amountAt(0, 0, week));
            due("amount 1 in " + week, y.amountAt(0, 1, week), x.amountAt(0, 1, week));
            due("sent in " + week, y.sent(0, week), x.sent(0, week));
            due("storage ahead of " + week, y.storageAt(0, week), x.storageAt(0, week));
            due("present storage", y.storageAt(0, week + 1), x.storageAt(0, week + 1));
            due("run-off in " + week, y.runOff(0, week), x.runOff(0, week));
            due("no amount is another one", y.changedAmounts(), 0);
            due("errors", y.errors(), 0);
        }
        due("storage in week 8", y.storageAt(0, 8), 20);
        due("run-off in week 7", y.runOff(0, 7) > 0, true);
    }

    private static void money() {
        about("a balance becomes less by the price times the amount of the week");
        RiverSeniority x = office("basin;place 60 60;right 0 1900 9 coins 200 ask 0 7 20;right 0 1910 0 coins 3 ask 0 7 5;"
            + "right 0 1920 1 ask 0 7 20 decree 0;");
        x.passWeek();
        due("9 times 20", x.balance(0), 20);
        due("price 0", x.balance(1), 3);
        due("amount 0", x.balance(2), 0);
        x.passWeek();
        due("below 0", x.balance(0), -160);
        due("closed from the next week on", x.askedAt(0, 0, 2), 0);
        due("not in the week ahead", x.askedAt(0, 0, 1), 20);
        due("a balance of 0 closes nothing", x.askedAt(0, 2, 2), 0);
        x.undo();
        due("undone", x.balance(0), 20);
        due("open", x.askedAt(0, 0, 2), 20);
        about("a right that cannot pay is closed until it is funded");
        x.redo();
        due("fund", x.fund(0, 159), -1);
        due("closed", x.askedAt(0, 0, 2), 0);
        due("fund", x.fund(0, 1), 0);
        due("open", x.askedAt(0, 0, 2), 20);
        about("the plan of later weeks does not know of what the balance will be");
        RiverSeniority y = office("basin;place 60 60;right 0 1900 9 ask 0 7 1;");
        due("planned", amounts(y, 0, 0), "1 1 1 1 1 1 1 1");
        y.passWeek();
        due("closed", amounts(y, 0, 0), "1 0 0 0 0 0 0 0");
    }
}
