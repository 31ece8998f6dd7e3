/** At least one test for each promise of the document: ordinary inputs, edges, wrong inputs. */
public final class PromisesTest extends Checks {
    public static void main(String[] args) {
        newObject();
        appending();
        readingBasins();
        readingErrors();
        writing();
        basinChanges();
        rightChanges();
        decrees();
        decreeErrors();
        leases();
        weekChanges();
        passing();
        journal();
        branches();
        whatThereIs();
        plans();
        ways();
        changedAmounts();
        witnesses();
        marks();
        whatWouldBe();
        measures();
        firstCalls();
        yearOver();
        finish();
    }

    private static void newObject() {
        about("promise 1");
        RiverSeniority x = new RiverSeniority();
        due("text", written(x), "basin;place 20 8;place 0 0;place 10 0;place 0 0;reach 0 1 12 0;reach 1 2 8 1;"
            + "reach 1 3 6 0;reach 2 3 5 0;right 3 1862 1 coins 30 ask 0 7 7;right 1 1880 0 ask 2 5 6;"
            + "right 2 1875 2 coins 8 ask 1 6 4;right 0 1901 0 ask 0 7 3;inflow 0 0 6 6 9 12 8 4 2 2;"
            + "inflow 0 1 1 1 2 2 1 0 0 0;inflow 1 0 4 4 6 8 5 3 1 1;inflow 2 0 9 9 12 15 12 8 5 4;"
            + "inflow 2 1 2 2 3 3 2 1 0 0;");
        x = new RiverSeniority();
        due("undo", x.undo(), -1);
        due("redo", x.redo(), -1);
        due("clearText", x.clearText(), 0);
        due("clearMarks", x.clearMarks(), 0);
        due("errorPosition", x.errorPosition(), -1);
        due("today", x.today(), 0);
        due("changedAmounts", x.changedAmounts(), 0);
        due("NONE", RiverSeniority.NONE, -1);
        RiverSeniority fresh = x;
        refused("writtenAt(0)", INDEX, () -> fresh.writtenAt(0));
        refused("switchBranch(1)", INDEX, () -> fresh.switchBranch(1));
        // Right 0 at place 3 gets 6 through reach 2 in week 0, and 1 and more by way of place 2 from week 1 on.
        due("amountAt(0, 0, 0)", x.amountAt(0, 0, 0), 6);
        due("amountAt(0, 0, 1)", x.amountAt(0, 0, 1), 7);
        due("shortage(0, 0)", x.shortage(0, 0), 1);
    }

    private static void appending() {
        about("promise 2");
        RiverSeniority x = new RiverSeniority();
        due("zero bytes", x.append(0, 0, 0, 0, 0), 0);
        due("bytes", x.append(0x61000062, 0, 0x00630000, 0, 0xff), 4);
        due("all bytes", x.append(-1, LOW, 1, 0, 0x01010101), 4 + 4 + 1 + 1 + 4);
        due("clearText", x.clearText(), 14);
        for (int i = 1; i <= 45; i++) {
            due("append of 20", x.append(0x20202020, 0x20202020, 0x20202020, 0x20202020, 0x20202020), 20 * i);
        }
        refused("the 901st byte", STATE, () -> x.append(0, 0, 0, 0, 0x20));
        refused("the 901st byte in a", STATE, () -> x.append(0x20, 0, 0, 0, 0));
        refused("the 901st byte in b", STATE, () -> x.append(0, 0x2000, 0, 0, 0));
        refused("the 901st byte in c", STATE, () -> x.append(0, 0, 0x200000, 0, 0));
        refused("the 901st byte in d", STATE, () -> x.append(0, 0, 0, LOW, 0));
        due("nothing more", x.append(0, 0, 0, 0, 0), 900);
        about("promise 3");
        due("clearText", x.clearText(), 900);
        due("clearText again", x.clearText(), 0);
        RiverSeniority y = new RiverSeniority();
        // The order of the bytes: the most significant first, the parameters in their order.
        y.append(0x62617369, 0x6e3b2020, 0x706c6163, 0x65203920, 0x343b0000);
        due("readBasin", y.readBasin(), 0);
        due("text", written(y), "basin;place 9 4;");
        y.append(0x20202020, 0x20202020, 0x20202020, 0x20202020, 0x20202020);
        for (int i = 0; i < 43; i++) {
            y.append(0x20202020, 0x20202020, 0x20202020, 0x20202020, 0x20202020);
        }
        due("to 899", y.append(0x20202020, 0x20202020, 0x20202020, 0x20202020, 0x20202000), 899);
        refused("899 and 2", STATE, () -> y.append(0x20, 0, 0, 0, 0x20));
        due("899 stay", y.append(0, 0, 0, 0, 0), 899);
        due("899 and 1", y.append(0, 0, 0x2000, 0, 0), 900);
    }

    private static void readingBasins() {
        about("promise 4");
        RiverSeniority x = new RiverSeniority();
        x.passWeek();
        x.abandon(0);
        x.lease(2, 0, 1, 5, 5);
        say(x, "basin;place 5 0005;place 3 1;reach 0 1 7 2 week 3 0 week 3 50 week 7 1;"
            + "right 1 1900 3 coins 17 ask 0 3 4 ask 2 5 6 coins 5;right0 1900 0 decree week+1 decree 2;"
            + "inflow 0 0 1 2 3;inflow 0 0 9 ;inflow 2 1 1 2 3 4 5 6 7 8;");
        due("readBasin", x.readBasin(), 2);
        due("buffer", x.clearText(), 0);
        due("errorPosition", x.errorPosition(), -1);
        due("today", x.today(), 0);
        due("text", written(x), "basin;place 5 5;place 3 1;reach 0 1 7 2 week 3 50 week 7 1;"
            + "right 1 1900 3 coins 5 ask 0 1 4 ask 2 5 6;right 0 1900 0 decree 2;"
            + "inflow 0 0 9 2 3 0 0 0 0 0;inflow 2 1 1 2 3 4 5 6 7 8;");
        due("lessorOf(1)", x.lessorOf(1), -1);
        due("undo", x.undo(), 3);
        due("what was ahead", x.rightCount(), 5);
        due("today ahead", x.today(), 1);
        due("redo", x.redo(), 0);
        due("what was read", x.rightCount(), 2);
        say(x, "basin;");
        due("an empty basin", x.readBasin(), 0);
        due("places", x.placeCount(), 0);
        due("text", written(x), "basin;");
        say(x, "  basin  ;  ");
        due("spaces", x.readBasin(), 0);
        // Nothing of what was on its way or in the past stays.
        RiverSeniority y = office("basin;place 0 0;place 0 0;reach 0 1 9 1;right 1 1900 0 ask 1 1 9;inflow 0 0 9;");
        y.passWeek();
        due("on its way", y.amountAt(0, 0, 1), 9);
        say(y, "basin;place 0 0;place 0 0;reach 0 1 9 1;right 1 1900 0 ask 1 1 9;");
        y.readBasin();
        due("nothing on its way", y.amountAt(0, 0, 1), 0);
        due("nothing sent", y.sent(0, 0), 0);
        refused("an error", ARGUMENT, () -> {
            say(y, "basin");
            return y.readBasin();
        });
        due("nothing changed", y.placeCount(), 2);
        due("undo after an error", y.undo(), 2);
        about("promise 5");
        due("error position", y.errorPosition(), 5);
        say(y, "basin;");
        y.readBasin();
        due("none again", y.errorPosition(), -1);
    }

    private static void readingErrors() {
        about("promise 4, 5");
        due("empty", stop(""), 0);
        due("spaces", stop("   "), 3);
        due("too early", stop("basin; place 1 1  "), 18);
        due("no basin", stop(" place 1 1;"), 1);
        due("no semicolon", stop("basin place"), 6);
        due("upper case", stop("Basin;"), 0);
        due("no token", stop("basin;place 1 1;#"), 16);
        due("high byte", stop("basin;\u00ff"), 6);
        due("line end", stop("basin;\n"), 6);
        due("a longer word", stop("basins;"), 0);
        due("a word up to z", stop("basinz;"), 0);
        due("a word from a", stop("basina;"), 0);
        due("a sign behind z", stop("basin{"), 5);
        due("900 tokens", stop("basin;" + ";".repeat(894)), 6);
        due("a text of 900 bytes that ends too early", stop("basin;" + " ".repeat(893) + "p"), 899);
        due("a text of 900 bytes", stop("basin" + " ".repeat(894) + ";"), -1);
        due("900 signs", stop(";".repeat(900)), 0);
        due("a word behind a number", stop("basin;place 1 1x;"), 15);
        due("words apart from numbers", stop("basin;place1 1;"), -1);
        due("five digits", stop("basin;place 00001 1;"), 12);
        due("four digits", stop("basin;place 0001 1;"), -1);
        due("capacity 60", stop("basin;place 60 60;"), -1);
        due("capacity 61", stop("basin;place 61 0;"), 12);
        due("storage above capacity", stop("basin;place 4 5;"), 14);
        due("a third number", stop("basin;place 4 4 4;"), 16);
        due("7th place", stop("basin;place 0 0;place 0 0;place 0 0;place 0 0;place 0 0;place 0 0;place 0 0;"), 66);
        String two = "basin;place 0 0;place 9 9;";
        due("reach", stop(two + "reach 0 1 50 2;"), -1);
        due("reach from nowhere", stop(two + "reach 2 1 50 2;"), 32);
        due("reach to nowhere", stop(two + "reach 0 2 50 2;"), 34);
        due("reach to itself", stop(two + "reach 1 001 50 2;"), 34);
        due("reach ahead of places", stop("basin;reach 0 1 1 1;"), 12);
        due("capacity of a reach", stop(two + "reach 0 1 51 2;"), 36);
        due("time", stop(two + "reach 0 1 50 3;"), 39);
        due("week 8", stop(two + "reach 0 1 50 2 week 8 1;"), 46);
        due("capacity in a week", stop(two + "reach 0 1 50 2 week 7 51;"), 48);
        due("no week", stop(two + "reach 0 1 50 2 coins 7;"), 41);
        String nine = "";
        for (int i = 0; i < 9; i++) {
            nine += "reach 0 1 1 0;";
        }
        due("9 reaches", stop(two + nine), -1);
        due("10 reaches", stop(two + nine + "reach 0 1 1 0;"), two.length() + nine.length());
        due("right", stop(two + "right 1 1800 0;right 0 2099 9 coins 0 coins 1000 ask 0 0 0 ask 7 7 20;"), -1);
        due("right nowhere", stop(two + "right 2 1800 0;"), 32);
        due("year 1799", stop(two + "right 1 1799 0;"), 34);
        due("year 2100", stop(two + "right 1 2100 0;"), 34);
        due("price 10", stop(two + "right 1 1800 10;"), 39);
        due("coins 1001", stop(two + "right 1 1800 1 coins 1001;"), 47);
        due("first week 8", stop(two + "right 1 1800 1 ask 8 8 1;"), 45);
        due("last week ahead of first", stop(two + "right 1 1800 1 ask 3 2 1;"), 47);
        due("last week 8", stop(two + "right 1 1800 1 ask 3 8 1;"), 47);
        due("ask 21", stop(two + "right 1 1800 1 ask 3 7 21;"), 49);
        due("no ask", stop(two + "right 1 1800 1 ask 3 7;"), 48);
        due("no decree", stop(two + "right 1 1800 1 decree;"), 47);
        String ten = "";
        for (int i = 0; i < 10; i++) {
            ten += "right 0 1900 1;";
        }
        due("10 rights", stop(two + ten), -1);
        due("11 rights", stop(two + ten + "right 0 1900 1;"), two.length() + ten.length());
        due("inflow", stop(two + "inflow 2 1 0 1 2 3 40 5 6 7;"), -1);
        due("scenario 3", stop(two + "inflow 3 1 0;"), 33);
        due("inflow nowhere", stop(two + "inflow 2 2 0;"), 35);
        due("inflow 41", stop(two + "inflow 2 1 41;"), 37);
        due("no inflow", stop(two + "inflow 2 1;"), 36);
        due("9th inflow", stop(two + "inflow 2 1 0 0 0 0 0 0 0 0 0;"), 53);
        due("a statement without a word", stop(two + ";"), 26);
        due("the first error", stop("basin;x y"), 6);
    }

    private static void writing() {
        about("promise 6");
        String from = "basin ; place 1 0 ;place 9 8;reach 1 0 4 0 week 0 5 week 7 5;reach 0 1 0 2;"
            + "right 0 1900 9 coins 1000 ask 0 0 1 ask 2 7 3 decree if flow(00)<1 then 007 else(week);"
            + "right 1 1800 0 coins 0 ask 0 7 20;inflow 2 0 0 0 0 0 0 0 0 1;inflow 0 1 0 0;inflow 1 1 40;";
        RiverSeniority x = office(from);
        String text = "basin;place 1 0;place 9 8;reach 1 0 5 0 week 1 4 week 2 4 week 3 4 week 4 4 week 5 4 week 6 4;"
            + "reach 0 1 0 2;right 0 1900 9 coins 1000 ask 0 0 1 ask 2 7 3 decree if flow ( 0 ) < 1 then 7 else ( week );"
            + "right 1 1800 0 ask 0 7 20;inflow 1 1 40 0 0 0 0 0 0 0;inflow 2 0 0 0 0 0 0 0 0 1;";
        due("length", x.writeBasin(), text.length());
        due("text", written(x), text);
        RiverSeniority rich = office(from);
        rich.fund(0, 1);
        rich.abandon(1);
        due("more than 1000 coins, and an abandoned right", written(rich), text);
        about("promise 7");
        due("writtenAt(0)", x.writtenAt(0), (int) 'b');
        due("writtenAt(last)", x.writtenAt(text.length() - 1), (int) ';');
        refused("writtenAt(length)", INDEX, () -> x.writtenAt(text.length()));
        refused("writtenAt(-1)", INDEX, () -> x.writtenAt(-1));
        refused("writtenAt(HIGH)", INDEX, () -> x.writtenAt(HIGH));
        x.abandon(1);
        x.setAsk(0, 0, 7, 0);
        due("the text stays until the next writing", x.writtenAt(text.length() - 1), (int) ';');
        x.undo();
        due("an undo does not touch it", x.writtenAt(0), (int) 'b');
        // A basin with a right that owes: neither the debt nor the storage of the past is written.
        RiverSeniority y = office("basin;place 9 9;right 0 1900 9 ask 0 0 5;");
        y.passWeek();
        due("balance", y.balance(0), -45);
        due("text of a debtor", written(y), "basin;place 9 4;right 0 1900 9 ask 0 0 5;");
        longest();
    }

    /** The longest text stays whole; as an object has 512 calls, this looks at its length and at some of its bytes. */
    private static void longest() {
        String inflows = "";
        for (int i = 0; i < 18; i++) {
            inflows += "inflow " + i / 6 + " " + i % 6 + " 40".repeat(8) + ";";
        }
        String places = "basin;" + "place 60 60;".repeat(6);
        RiverSeniority z = office(places + inflows);
        for (int i = 0; i < 9; i++) {
            z.addReach(5, 4, 50, 2);
            for (int w = 1; w < 8; w++) {
                z.setCapacity(i, w, 49);
            }
        }
        String right = "right 5 2099 9 coins 1000";
        for (int w = 0; w < 8; w++) {
            right += " ask " + w + " " + w + (w % 2 == 0 ? " 20" : " 19");
        }
        right += " decree total ( 5 )" + " + 9999".repeat(28) + ";";
        for (int i = 0; i < 10; i++) {
            z.addRight(5, 2099, 9);
            z.fund(i, 1000);
            for (int w = 0; w < 8; w++) {
                z.setAsk(i, w, w, 20 - w % 2);
            }
            due("tokens", decree(z, i, "total(5)" + "+9999".repeat(28)), 60);
        }
        String reach = "reach 5 4 50 2 week 1 49 week 2 49 week 3 49 week 4 49 week 5 49 week 6 49 week 7 49;";
        String text = places + reach.repeat(9) + right.repeat(10) + inflows;
        due("the length of the longest text", z.writeBasin(), text.length());
        for (int i = 0; i < 190; i++) {
            int index = i * (text.length() - 1) / 189;
            due("byte " + index + " of the longest text", z.writtenAt(index), (int) text.charAt(index));
        }
    }

    private static void basinChanges() {
        about("promise 8");
        RiverSeniority x = new RiverSeniority();
        refused("capacity -1", ARGUMENT, () -> x.addPlace(-1, 0));
        refused("capacity 61", ARGUMENT, () -> x.addPlace(61, 0));
        refused("storage -1", ARGUMENT, () -> x.addPlace(5, -1));
        refused("storage 6", ARGUMENT, () -> x.addPlace(5, 6));
        due("addPlace", x.addPlace(60, 60), 4);
        due("addPlace", x.addPlace(0, 0), 5);
        due("placeCount", x.placeCount(), 6);
        due("storageAt", x.storageAt(4, 0), 60);
        refused("7th place", STATE, () -> x.addPlace(0, 0));
        refused("7th place out of range", ARGUMENT, () -> x.addPlace(0, 1));
        about("promise 9");
        refused("from", INDEX, () -> x.addReach(6, 0, 99, 9));
        refused("from -1", INDEX, () -> x.addReach(-1, 0, 1, 1));
        refused("to", INDEX, () -> x.addReach(0, 6, 1, 1));
        refused("to itself", ARGUMENT, () -> x.addReach(0, 0, 1, 1));
        refused("capacity 51", ARGUMENT, () -> x.addReach(0, 1, 51, 1));
        refused("capacity -1", ARGUMENT, () -> x.addReach(0, 1, -1, 1));
        refused("time 3", ARGUMENT, () -> x.addReach(0, 1, 1, 3));
        refused("time -1", ARGUMENT, () -> x.addReach(0, 1, 1, -1));
        for (int i = 4; i < 9; i++) {
            due("addReach", x.addReach(4, 5, 50, 2), i);
        }
        due("reachCount", x.reachCount(), 9);
        refused("10th reach", STATE, () -> x.addReach(0, 1, 1, 1));
        refused("10th reach to itself", ARGUMENT, () -> x.addReach(1, 1, 1, 1));
        for (int w = 0; w < 8; w++) {
            due("capacityAt", x.capacityAt(8, w), 50);
        }
        about("promise 10");
        due("setCapacity", x.setCapacity(8, 7, 0), 50);
        due("setCapacity again", x.setCapacity(8, 7, 50), 0);
        due("other weeks", x.capacityAt(8, 6), 50);
        refused("reach", INDEX, () -> x.setCapacity(9, 8, 51));
        refused("week 8", ARGUMENT, () -> x.setCapacity(8, 8, 1));
        refused("week -1", ARGUMENT, () -> x.setCapacity(8, -1, 1));
        refused("capacity 51", ARGUMENT, () -> x.setCapacity(8, 0, 51));
        refused("capacity -1", ARGUMENT, () -> x.setCapacity(8, 0, -1));
        x.passWeek();
        refused("week over", STATE, () -> x.setCapacity(8, 0, 1));
        refused("week over, capacity 51", ARGUMENT, () -> x.setCapacity(8, 0, 51));
        due("the present week", x.setCapacity(8, 1, 3), 50);
        about("promise 8, 9");
        // What comes later was not there in the weeks that are over.
        RiverSeniority y = office("basin;place 3 3;inflow 0 0 5;");
        y.passWeek();
        y.addPlace(9, 7);
        due("storage then", y.storageAt(1, 0), 0);
        due("storage now", y.storageAt(1, 1), 7);
        due("run-off then", y.runOff(1, 0), 0);
        y.addReach(0, 1, 4, 1);
        due("sent then", y.sent(0, 0), 0);
        y.addRight(1, 1900, 1);
        due("amount then", y.amountAt(0, 0, 0), 0);
        due("asked then", y.askedAt(1, 0, 0), 0);
    }

    private static void rightChanges() {
        about("promise 11");
        RiverSeniority x = new RiverSeniority();
        refused("place", INDEX, () -> x.addRight(4, 1, 99));
        refused("place -1", INDEX, () -> x.addRight(-1, 1900, 1));
        refused("year 1799", ARGUMENT, () -> x.addRight(0, 1799, 1));
        refused("year 2100", ARGUMENT, () -> x.addRight(0, 2100, 1));
        refused("price 10", ARGUMENT, () -> x.addRight(0, 1900, 10));
        refused("price -1", ARGUMENT, () -> x.addRight(0, 1900, -1));
        due("addRight", x.addRight(0, 1800, 0), 4);
        for (int i = 5; i < 10; i++) {
            due("addRight", x.addRight(3, 2099, 9), i);
        }
        due("rightCount", x.rightCount(), 10);
        refused("11th right", STATE, () -> x.addRight(0, 1800, 0));
        refused("11th right, year", ARGUMENT, () -> x.addRight(0, 1700, 0));
        for (int w = 0; w < 8; w++) {
            due("asks for nothing", x.askedAt(0, 4, w), 0);
        }
        due("balance", x.balance(9), 0);
        about("promise 12");
        refused("right", INDEX, () -> x.setAsk(10, 8, 0, 99));
        refused("first 8", ARGUMENT, () -> x.setAsk(0, 8, 8, 1));
        refused("first -1", ARGUMENT, () -> x.setAsk(0, -1, 8, 1));
        refused("last 8", ARGUMENT, () -> x.setAsk(0, 0, 8, 1));
        refused("last ahead of first", ARGUMENT, () -> x.setAsk(0, 3, 2, 1));
        refused("amount 21", ARGUMENT, () -> x.setAsk(0, 0, 1, 21));
        refused("amount -1", ARGUMENT, () -> x.setAsk(0, 0, 1, -1));
        due("setAsk", x.setAsk(1, 1, 6, 6), 2);
        due("setAsk the same", x.setAsk(1, 1, 6, 6), 0);
        due("setAsk one week", x.setAsk(1, 7, 7, 20), 1);
        due("asked", x.askedAt(2, 1, 7), 20);
        due("not asked", x.askedAt(2, 1, 0), 0);
        x.passWeek();
        refused("first week over", STATE, () -> x.setAsk(1, 0, 7, 1));
        refused("first week over, amount", ARGUMENT, () -> x.setAsk(1, 0, 7, 21));
        about("promise 14");
        RiverSeniority y = new RiverSeniority();
        refused("right", INDEX, () -> y.abandon(4));
        int all = y.total(0);
        due("abandon", y.abandon(0), all);
        refused("abandoned", STATE, () -> y.abandon(0));
        due("asks for nothing", y.askedAt(0, 0, 7), 0);
        refused("setAsk of an abandoned right", STATE, () -> y.setAsk(0, 0, 7, 1));
        due("undo", y.undo(), 0);
        due("asks again", y.askedAt(0, 0, 7), 7);
        y.passWeek();
        due("only what is not over", y.abandon(0), all - y.amountAt(0, 0, 0));
        due("what was asked for stays", y.askedAt(0, 0, 0), 7);
        due("what was got stays", y.total(0), 6);
        funding();
    }

    private static void funding() {
        about("promise 15");
        RiverSeniority x = office("basin;place 9 9;right 0 1900 9 ask 0 7 5;");
        refused("right", INDEX, () -> x.fund(1, 0));
        refused("coins 0", ARGUMENT, () -> x.fund(0, 0));
        refused("coins 1001", ARGUMENT, () -> x.fund(0, 1001));
        x.passWeek();
        due("balance", x.balance(0), -45);
        due("closed", x.askedAt(0, 0, 1), 0);
        due("closed gets nothing", x.amountAt(0, 0, 1), 0);
        due("fund", x.fund(0, 44), -1);
        due("still closed", x.askedAt(0, 0, 1), 0);
        due("fund", x.fund(0, 1), 0);
        due("open", x.askedAt(0, 0, 1), 5);
        due("gets", x.amountAt(0, 0, 1), 4);
        int balance = 0;
        for (int i = 0; i < 400; i++) {
            balance = x.fund(0, 1000);
        }
        due("400 times 1000", balance, 400000);
        due("fund 1000", x.fund(0, 1000), 401000);
        // 512 calls are too few for a million, and what later calls answer is free; this tries the bound all the same.
        RiverSeniority rich = office("basin;place 0 0;right 0 1900 0 coins 1000;");
        for (int i = 0; i < 999; i++) {
            rich.fund(0, 1000);
        }
        due("a million", rich.balance(0), 1000000);
        refused("above a million", STATE, () -> rich.fund(0, 1));
        refused("above a million, coins", ARGUMENT, () -> rich.fund(0, 0));
    }

    private static void decrees() {
        about("promise 13");
        RiverSeniority x = new RiverSeniority();
        say(x, " week+flow ( 0 ) * 2 ");
        due("setDecree", x.setDecree(3), 8);
        due("buffer", x.clearText(), 0);
        due("value", x.decreeValue(0, 3, 2), 20);
        due("value by another scenario", x.decreeValue(1, 3, 2), 14);
        due("the lesser one", x.askedAt(0, 3, 2), 3);
        say(x, "week-2");
        due("setDecree", x.setDecree(3), 3);
        due("below 0", x.decreeValue(0, 3, 0), -2);
        due("asks 0", x.askedAt(0, 3, 0), 0);
        due("asks 1", x.askedAt(0, 3, 3), 1);
        say(x, "   ");
        due("no decree", x.setDecree(3), 0);
        due("asks again", x.askedAt(0, 3, 0), 3);
        refused("no decree", ELEMENT, () -> x.decreeValue(0, 3, 0));
        due("still no decree, from nothing", x.setDecree(3), 0);
        say(x, "1 1");
        refused("right", INDEX, () -> x.setDecree(4));
        x.abandon(0);
        refused("abandoned", STATE, () -> x.setDecree(0));
        due("errorPosition stays", x.errorPosition(), -1);
        refused("error", ARGUMENT, () -> x.setDecree(1));
        due("errorPosition", x.errorPosition(), 2);
        due("buffer is empty", x.clearText(), 0);
        about("promise 33");
        refused("scenario", INDEX, () -> x.decreeValue(3, 1, 8));
        refused("right", INDEX, () -> x.decreeValue(0, 4, 8));
        refused("week", ARGUMENT, () -> x.decreeValue(0, 1, 8));
        refused("week -1", ARGUMENT, () -> x.decreeValue(0, 1, -1));
        due("left to right", value("10-3-2"), 5);
        due("ranks", value("2+3*4-6/3"), 12);
        due("division from left to right", value("100/7/2*3"), 21);
        due("rounded toward 0", value("(0-7)/2"), -3);
        due("by 0", value("5/0"), 0);
        due("by 0 in between", value("5/(week-week)*3+1"), 1);
        due("overflow", value("9999*9999*9999*9999"), 9999 * 9999 * 9999 * 9999);
        // -2^31 / -1 overflows to -2^31.
        due("overflow of /", value("(0-2*4*8*32*1024*1024)/(0-1)"), LOW);
        due("least", value("least(3,2)"), 2);
        due("most", value("most(0-3,2)"), 2);
        due("least of equals", value("least(2,2)"), 2);
        due("flow", value("flow(0)"), 6);
        due("flow of no place", value("flow(4)+flow(0-1)"), 0);
        due("total", value("total(0)"), 49);
        due("total of no place", value("total(9999)"), 0);
        due("if <", value("if 1<2 then 3 else 4"), 3);
        due("if < equal", value("if 2<2 then 3 else 4"), 4);
        due("if >", value("if 1>2 then 3 else 4"), 4);
        due("if > equal", value("if 2>2 then 3 else 4"), 4);
        due("if =", value("if 2=1+1 then 3 else 4"), 3);
        due("if = unlike", value("if 2=1 then 3 else 4"), 4);
        due("if in then", value("if 1<2 then if 2<1 then 5 else 6 else 7"), 6);
        due("if in else", value("if 2<1 then 5 else if 2<1 then 6 else 7"), 7);
        due("the last else reaches far", value("if 2<1 then 5 else 6+1"), 7);
        due("brackets", value("2*(3+4)"), 14);
        due("8 levels", value("((((((((1+2))))))))*3"), 9);
        due("8 levels with if", value("(((((((if 1<2 then 3 else 4)))))))+least(1,most(2,3))"), 4);
        due("8 levels with flow", value("(((((((flow(0))))))))"), 6);
        due("7 ifs", value("if 1<0 then 1 else ".repeat(7) + "if 1=1 then 8 else 9"), 8);
        x.passWeek();
        say(x, "week*10+flow(0)");
        x.setDecree(1);
        due("a week that is over", x.decreeValue(0, 1, 0), 6);
        due("the last week", x.decreeValue(2, 1, 7), 74);
    }

    /** What a decree is worth in week 0 by scenario 0 of the first basin. */
    private static int value(String decree) {
        RiverSeniority x = new RiverSeniority();
        say(x, decree);
        x.setDecree(0);
        return x.decreeValue(0, 0, 0);
    }

    private static void decreeErrors() {
        about("promise 13");
        due("no expression", decreeStop("+"), 0);
        due("ends early", decreeStop("1+ "), 3);
        due("no token", decreeStop("1 + ?"), 4);
        due("five digits", decreeStop("1+00001"), 2);
        due("four digits", decreeStop("1+9999"), -1);
        due("two numbers", decreeStop("1 2"), 2);
        due("semicolon", decreeStop("1;"), 1);
        due("no bracket", decreeStop("flow 0"), 5);
        due("no comma", decreeStop("least(1)"), 7);
        due("a comma too many", decreeStop("flow(1,2)"), 6);
        due("an open bracket", decreeStop("(1"), 2);
        due("a bracket too many", decreeStop("(1))"), 3);
        due("if in a sum", decreeStop("1+if 1<2 then 3 else 4"), 2);
        due("if without then", decreeStop("if 1<2 3 else 4"), 7);
        due("if without comparison", decreeStop("if 1 then 3 else 4"), 5);
        due("two comparisons", decreeStop("if 1<2<3 then 3 else 4"), 6);
        due("if without else", decreeStop("if 1<2 then 3"), 13);
        due("a comparison alone", decreeStop("1<2"), 1);
        due("no minus of one", decreeStop("-1"), 0);
        due("another word", decreeStop("place"), 0);
        String sixty = "1" + "+1".repeat(28) + "+(1)";
        due("61 tokens in brackets", decreeStop(sixty), 60);
        due("59 tokens", decreeStop("1" + "+1".repeat(29)), -1);
        due("60 tokens", decreeStop("(1)+" + "flow(0)+" + "1+".repeat(25) + "1"), -1);
        due("61 tokens", decreeStop("1" + "+1".repeat(30)), 60);
        due("62 tokens, the 61st is the sign", decreeStop("(1)+flow(0)+" + "1+".repeat(25) + "1+1"), 63);
        due("8 levels", decreeStop("((((((((1))))))))"), -1);
        due("9 levels", decreeStop("(((((((((1)))))))))"), 8);
        due("9 levels of flow", decreeStop("((((((((flow(1)))))))))"), 12);
        due("8 levels again and again", decreeStop("((((((((1))))))))+((((((((1))))))))"), -1);
        String ifs = "if 1<2 then 3 else ";
        due("7 ifs", decreeStop(ifs.repeat(6) + "4"), -1);
        due("levels of ifs", decreeStop("((((" + ifs.repeat(4) + "4))))"), -1);
        due("the 9th level is an if", decreeStop("(((((" + ifs.repeat(4) + "4)))))"), 5 + 3 * ifs.length());
        due("the 9th level in a comparison", decreeStop("(((((((if(1)<2 then 3 else 4)))))))"), 9);
        due("the 9th level behind a comparison", decreeStop("(((((((if 1<(2) then 3 else 4)))))))"), 12);
        due("the 9th level behind then", decreeStop("(((((((if 1<2 then (3) else 4)))))))"), 19);
        due("the 9th level behind else", decreeStop("(((((((if 1<2 then 3 else (4))))))))"), 26);
        due("the 9th level in a second part", decreeStop("(((((((least(1,(2)))))))))"), 15);
        due("900 tokens", decreeStop("(".repeat(900)), 8);
        due("if closes behind else", decreeStop("(((((((if 1<2 then 3 else 4)+(1)))))))"), -1);
        RiverSeniority x = new RiverSeniority();
        say(x, "1+");
        refused("an error is no change", ARGUMENT, () -> x.setDecree(0));
        due("undo", x.undo(), -1);
        String two = "basin;place 0 0;right 0 1900 1 decree ";
        due("decree in a basin", stop(two + "1 ask 0 7 1;"), -1);
        due("61 tokens in a basin", stop(two + "1" + "+1".repeat(30) + ";"), two.length() + 60);
        due("each decree by itself", stop(two + "1" + "+1".repeat(29) + " decree 1" + "+1".repeat(29) + ";"), -1);
        due("9 levels in a basin", stop(two + "(((((((((1)))))))));"), two.length() + 8);
    }

    private static void leases() {
        about("promise 16");
        // Two places, a reach from 0 to 1; the lessor sits at 1, a younger right at 0.
        String text = "basin;place 0 0;place 0 0;reach 0 1 5 0;right 1 1900 2 ask 0 7 4;right 0 1950 1 ask 0 7 6;"
            + "inflow 0 0 10 10 10 10 10 10 10 10;inflow 1 0 10 10 10 10 10 10 10 10;inflow 2 0 10 10 10 10 10 10 10 10;";
        RiverSeniority x = office(text);
        due("lease", x.lease(0, 0, 3, 1, 2), 2);
        due("ask of the lessor", x.askedAt(0, 0, 1), 1);
        due("ask of the lessor ahead", x.askedAt(0, 0, 0), 4);
        due("ask of the lease", x.askedAt(0, 2, 2), 3);
        due("ask of the lease behind", x.askedAt(0, 2, 3), 0);
        due("lessorOf", x.lessorOf(2), 0);
        due("balance", x.balance(2), 0);
        due("rank", x.rankOf(2), 1);
        due("rank of the younger", x.rankOf(1), 2);
        due("amount", x.amountAt(0, 2, 1), 3);
        due("a lease of a lease", x.lease(2, 1, 3, 2, 2), 3);
        due("its lessor", x.lessorOf(3), 2);
        due("its rank, by its root", x.rankOf(3), 2);
        due("written", written(x).contains("right 0 1900 2 ask 1 1 3;right 1 1900 2 ask 2 2 3;"), true);
        x.addRight(0, 1900, 1);
        due("a later root of the same year", x.rankOf(4), 3);
        refused("right", INDEX, () -> x.lease(5, 0, 0, 8, 8));
        refused("place", INDEX, () -> x.lease(0, 2, 0, 8, 8));
        refused("amount 0", ARGUMENT, () -> x.lease(0, 0, 0, 1, 1));
        refused("amount 21", ARGUMENT, () -> x.lease(0, 0, 21, 1, 1));
        refused("first", ARGUMENT, () -> x.lease(0, 0, 1, -1, 1));
        refused("last", ARGUMENT, () -> x.lease(0, 0, 1, 1, 8));
        refused("last ahead of first", ARGUMENT, () -> x.lease(0, 0, 1, 2, 1));
        refused("ask is less", STATE, () -> x.lease(0, 0, 2, 0, 1));
        due("ask is as much", x.lease(0, 0, 1, 0, 1), 5);
        x.passWeek();
        refused("first week over", STATE, () -> x.lease(0, 0, 1, 0, 3));
        x.abandon(1);
        refused("abandoned", STATE, () -> x.lease(1, 0, 1, 3, 3));
        refused("closed", STATE, () -> x.lease(0, 1, 1, 5, 5));
        x.fund(0, 100);
        x.lease(0, 0, 1, 5, 5);
        x.lease(0, 0, 1, 6, 6);
        x.lease(0, 0, 1, 7, 7);
        x.addRight(0, 1900, 1);
        due("ten rights", x.rightCount(), 10);
        refused("10 rights", STATE, () -> x.lease(0, 0, 1, 4, 4));
        refused("10 rights, injuredRight", STATE, () -> x.injuredRight(0, 0, 1, 4, 4));
        due("10 rights, greatestLease", x.greatestLease(0, 0, 4, 4), 0);
        injuries();
    }

    private static void injuries() {
        String text = "basin;place 0 0;place 0 0;reach 0 1 9 0;right 1 1900 0 ask 0 0 4;right 1 1950 0 ask 0 0 9;"
            + "inflow 0 0 5;inflow 1 0 20;inflow 2 0 3;";
        RiverSeniority x = office(text);
        about("promise 54");
        // By scenario 0 five units come, four to the lessor: the younger right keeps its one, wherever the four go.
        due("nobody", x.injuredRight(0, 0, 4, 0, 0), -1);
        about("promise 55");
        due("greatest", x.greatestLease(0, 0, 0, 0), 4);
        about("promise 54");
        // A place without water: the lease gets nothing there, and the younger right more.
        x.addPlace(0, 0);
        due("nobody at a dry place", x.injuredRight(0, 2, 4, 0, 0), -1);
        // A decree keeps the lessor below its ask: with the lease, more is taken in all.
        say(x, "1");
        x.setDecree(0);
        due("the younger right loses", x.injuredRight(0, 0, 2, 0, 0), 1);
        refused("not admitted", STATE, () -> x.lease(0, 0, 2, 0, 0));
        due("it loses by one unit, too", x.injuredRight(0, 0, 1, 0, 0), 1);
        // Leased wholly, the lessor asks for nothing: 4 are taken instead of 1.
        due("four", x.injuredRight(0, 0, 4, 0, 0), 1);
        about("promise 55");
        due("none", x.greatestLease(0, 0, 0, 0), 0);
        about("promise 54");
        // The scenarios are gone through in their order, and in each the rights.
        RiverSeniority y = office("basin;place 0 0;place 0 0;right 0 1900 0 ask 0 0 4;right 1 1950 0 ask 0 0 9;"
            + "right 1 1940 0 ask 0 0 1;inflow 0 0 4;inflow 0 1 20;inflow 1 0 4;inflow 1 1 9;inflow 2 1 10;");
        due("scenario 1 is the first", y.injuredRight(0, 1, 1, 0, 0), 1);
        y.setInflow(0, 1, 0, 1);
        due("scenario 0 now", y.injuredRight(0, 1, 1, 0, 0), 2);
        // The lessor may be the younger one by number, and right 0 the one that is injured.
        RiverSeniority back = office("basin;place 0 0;place 0 0;right 1 1950 0 ask 0 0 9;right 0 1900 0 ask 0 0 4;"
            + "right 1 1960 0 ask 0 0 9;inflow 0 0 4;inflow 0 1 12;");
        due("right 0 loses, and right 2", back.injuredRight(1, 1, 4, 0, 0), 0);
        due("right 2 loses alone", back.injuredRight(1, 1, 3, 0, 0), 2);
        about("promise 55");
        RiverSeniority z = office("basin;place 0 0;place 0 0;right 0 1900 0 ask 0 0 20;right 1 1950 0 ask 0 0 3;"
            + "inflow 0 0 20;inflow 0 1 10;inflow 1 1 9;inflow 2 1 8;");
        due("as much as the driest scenario spares", z.greatestLease(0, 1, 0, 0), 5);
        due("five", z.injuredRight(0, 1, 5, 0, 0), -1);
        due("six", z.injuredRight(0, 1, 6, 0, 0), 1);
        refused("right", INDEX, () -> z.greatestLease(2, 0, 8, 8));
        refused("place", INDEX, () -> z.greatestLease(0, 2, 8, 8));
        refused("first", ARGUMENT, () -> z.greatestLease(0, 0, -1, 8));
        refused("last", ARGUMENT, () -> z.greatestLease(0, 0, 3, 2));
        due("no ask", z.greatestLease(0, 0, 0, 1), 0);
        z.abandon(0);
        due("abandoned", z.greatestLease(0, 0, 0, 0), 0);
        refused("abandoned, injuredRight", STATE, () -> z.injuredRight(0, 0, 1, 0, 0));
        z.passWeek();
        refused("week over", STATE, () -> z.greatestLease(0, 0, 0, 3));
        about("promise 54");
        refused("right", INDEX, () -> z.injuredRight(2, 0, 0, 0, 0));
        refused("place", INDEX, () -> z.injuredRight(0, -1, 0, 0, 0));
        refused("amount", ARGUMENT, () -> z.injuredRight(1, 0, 21, 1, 1));
        refused("first", ARGUMENT, () -> z.injuredRight(1, 0, 1, 8, 8));
        refused("week over", STATE, () -> z.injuredRight(1, 0, 1, 0, 0));
        refused("ask is less", STATE, () -> z.injuredRight(1, 0, 1, 1, 1));
        // A greater lease may be admitted where a lesser one is not: the decree lets the lessor have its unit
        // besides the lease, as long as its ask is not leased out wholly.
        RiverSeniority more = office("basin;place 0 0;place 0 0;reach 0 1 1 0;right 0 1900 0 ask 0 0 4 decree 1;"
            + "right 0 1950 0 ask 0 0 9;inflow 0 0 5;");
        for (int amount = 1; amount <= 3; amount++) {
            due("injured", more.injuredRight(0, 1, amount, 0, 0), 1);
        }
        due("leased wholly", more.injuredRight(0, 1, 4, 0, 0), -1);
        about("promise 55");
        due("also if not with a lesser one", more.greatestLease(0, 1, 0, 0), 4);
    }

    private static void weekChanges() {
        about("promise 17");
        RiverSeniority x = new RiverSeniority();
        due("setInflow", x.setInflow(0, 0, 3, 40), 12);
        due("inflowAt", x.inflowAt(0, 0, 3), 40);
        due("another scenario", x.inflowAt(1, 0, 3), 8);
        refused("scenario 3", INDEX, () -> x.setInflow(3, 0, 8, 41));
        refused("scenario -1", INDEX, () -> x.setInflow(-1, 0, 0, 0));
        refused("place", INDEX, () -> x.setInflow(0, 4, 8, 41));
        refused("week 8", ARGUMENT, () -> x.setInflow(0, 0, 8, 1));
        refused("amount 41", ARGUMENT, () -> x.setInflow(0, 0, 0, 41));
        refused("amount -1", ARGUMENT, () -> x.setInflow(0, 0, 0, -1));
        x.passWeek();
        refused("week over", STATE, () -> x.setInflow(2, 0, 0, 1));
        refused("week over, amount", ARGUMENT, () -> x.setInflow(2, 0, 0, 41));
        about("promise 18");
        due("gauge", x.gauge(0, 0), 6);
        for (int s = 0; s < 3; s++) {
            due("inflow in all scenarios", x.inflowAt(s, 0, 1), 0);
        }
        due("the week behind", x.inflowAt(2, 0, 2), 12);
        due("the week ahead", x.inflowAt(2, 0, 0), 9);
        refused("place", INDEX, () -> x.gauge(4, 41));
        refused("amount 41", ARGUMENT, () -> x.gauge(0, 41));
        refused("amount -1", ARGUMENT, () -> x.gauge(0, -1));
        due("gauge 40", x.gauge(0, 40), 0);
        about("promise 19");
        int stored = x.storageAt(0, 1);
        due("measure", x.measure(0, 20), stored);
        due("storage", x.storageAt(0, 1), 20);
        due("what was is as it was", x.storageAt(0, 0), 8);
        refused("place", INDEX, () -> x.measure(-1, 21));
        refused("storage 21", ARGUMENT, () -> x.measure(0, 21));
        refused("storage -1", ARGUMENT, () -> x.measure(0, -1));
        refused("a place that stores nothing", ARGUMENT, () -> x.measure(1, 1));
        due("measure 0", x.measure(1, 0), 0);
    }

    private static void passing() {
        about("promise 20");
        // Right 1 is older; the reach takes a week, so the present water is spent at place 0.
        RiverSeniority x = office("basin;place 4 1;place 3 0;reach 0 1 5 1;right 1 1900 3 coins 5 ask 1 2 4;"
            + "right 0 1910 1 ask 0 0 2;inflow 0 0 6 1;");
        // Week 0: 7 units at place 0. Right 0 wants 4 in week 1 and 4 in week 2.
        due("amount 0 in 1", x.amountAt(0, 0, 1), 4);
        due("amount 0 in 2", x.amountAt(0, 0, 2), 4);
        due("amount 1 in 0", x.amountAt(0, 1, 0), 0);
        due("sent 0", x.sent(0, 0), 4);
        due("stored 0", x.storageAt(0, 1), 3);
        due("sent 1", x.sent(0, 1), 4);
        due("run-off", x.runOff(0, 0), 0);
        due("passWeek", x.passWeek(), 1);
        due("today", x.today(), 1);
        due("sent then", x.sent(0, 0), 4);
        due("storage then", x.storageAt(0, 0), 1);
        due("present storage", x.storageAt(0, 1), 3);
        due("balance", x.balance(0), 5);
        due("it arrives", x.amountAt(0, 0, 1), 4);
        due("scenario 1 has what arrives, too", x.amountAt(1, 0, 1), 4);
        due("passWeek", x.passWeek(), 2);
        due("balance, paid", x.balance(0), -7);
        due("closed from now on", x.askedAt(0, 0, 2), 0);
        due("amount in scenario 2 of a week over", x.amountAt(2, 0, 1), 4);
        due("asked by scenario 1 in a week over", x.askedAt(1, 0, 1), 4);
        due("a closed right's shortage", x.shortage(0, 2), 0);
        due("shortage of a week over", x.shortage(1, 0), 2);
        due("storageAt(1, 2)", x.storageAt(1, 2), 0);
        due("storageAt(1, 3)", x.storageAt(1, 3), 3);
        due("runOff(1, 2)", x.runOff(1, 2), 1);
        x.passWeek();
        due("run-off of a week over", x.runOff(1, 2), 1);
        due("the other scenarios plan with scenario 0's past", x.storageAt(1, 3), 3);
        for (int w = 4; w <= 8; w++) {
            due("passWeek", x.passWeek(), w);
        }
        refused("year over", STATE, () -> x.passWeek());
        due("undo", x.undo(), 5);
        due("today", x.today(), 7);
    }

    private static void journal() {
        about("promise 21");
        RiverSeniority x = new RiverSeniority();
        for (int i = 1; i <= 7; i++) {
            x.setAsk(3, 0, 0, i);
        }
        for (int i = 6; i >= 1; i--) {
            due("undo", x.undo(), i - 1);
            due("ask", x.askedAt(0, 3, 0), i);
        }
        due("nothing to undo", x.undo(), -1);
        due("the oldest change stays", x.askedAt(0, 3, 0), 1);
        about("promise 22");
        for (int i = 2; i <= 7; i++) {
            due("redo", x.redo(), 7 - i);
            due("ask", x.askedAt(0, 3, 0), i);
        }
        due("nothing to redo", x.redo(), -1);
        x.undo();
        x.undo();
        due("undo", x.undo(), 3);
        x.setAsk(3, 0, 0, 9);
        due("a new change forgets", x.redo(), -1);
        due("undo of the new one", x.undo(), 3);
        due("redo of the new one", x.redo(), 0);
        due("its ask", x.askedAt(0, 3, 0), 9);
        // A change that makes nothing different is a change, a refused call is none.
        x.setAsk(3, 0, 0, 9);
        refused("refused", ARGUMENT, () -> x.setAsk(3, 0, 0, 21));
        due("undo", x.undo(), 4);
        refused("refused", ARGUMENT, () -> x.setAsk(3, 0, 0, 21));
        due("a refused call forgets nothing", x.redo(), 0);
        about("promise 21, 22");
        // All of a branch comes back: also what is over, abandoned, leased or on its way.
        RiverSeniority y = new RiverSeniority();
        y.lease(3, 0, 1, 7, 7);
        y.passWeek();
        y.abandon(1);
        int length = y.writeBasin();
        say(y, "basin;place 1 1;");
        y.readBasin();
        due("text", written(y), "basin;place 1 1;");
        y.undo();
        due("length of the text", y.writeBasin(), length);
        due("abandoned", y.askedAt(0, 1, 3), 0);
        y.undo();
        due("not abandoned", y.askedAt(0, 1, 3), 6);
        due("today", y.today(), 1);
        y.undo();
        due("today", y.today(), 0);
        due("lease", y.lessorOf(4), 3);
        y.undo();
        due("no lease", y.rightCount(), 4);
        due("all of it can be redone", y.redo(), 3);
        // Marks and buffers belong to no branch.
        y.mark(0, 0, true);
        say(y, "1");
        y.undo();
        due("the mark stays", y.isMarked(0, 0), true);
        due("the buffer stays", y.clearText(), 1);
    }

    private static void branches() {
        about("promise 23");
        RiverSeniority x = new RiverSeniority();
        x.setAsk(3, 0, 0, 9);
        due("createBranch", x.createBranch(), 1);
        due("it is not the current one", x.undo(), 0);
        due("createBranch can be followed by a redo", x.redo(), 0);
        about("promise 24");
        due("switchBranch", x.switchBranch(1), 0);
        due("a copy", x.askedAt(0, 3, 0), 9);
        due("without changes to undo", x.undo(), -1);
        due("without changes to redo", x.redo(), -1);
        x.setAsk(3, 0, 0, 2);
        due("the same again", x.switchBranch(1), 1);
        due("back", x.switchBranch(0), 1);
        due("apart", x.askedAt(0, 3, 0), 9);
        due("its own journal", x.undo(), 0);
        refused("no such branch", INDEX, () -> x.switchBranch(2));
        refused("no such branch", INDEX, () -> x.switchBranch(-1));
        about("promise 23");
        due("createBranch", x.createBranch(), 2);
        refused("a 4th branch", STATE, () -> x.createBranch());
        due("no change", x.redo(), 0);
        about("promise 25");
        RiverSeniority y = office("basin;place 0 0;right 0 1900 0 ask 0 7 3;inflow 0 0 9 9 9 2 0 0 0 0;");
        due("with itself", y.difference(0), 0);
        y.createBranch();
        due("with a copy", y.difference(1), 0);
        y.passWeek();
        due("with a week that passed", y.difference(1), 0);
        y.setAsk(0, 1, 3, 2);
        // Weeks 1 and 2 get 2 instead of 3, week 3 gets 2 in both.
        due("asks", y.difference(1), 2);
        y.addRight(0, 1950, 0);
        y.setAsk(1, 1, 7, 1);
        // The new right gets 1 in weeks 1 and 2, 0 later; it is not there in the other branch.
        due("a new right", y.difference(1), 4);
        y.switchBranch(1);
        due("the other way", y.difference(0), 4);
        y.gauge(0, 1);
        due("a week that is over there", y.difference(0), 5);
        refused("no such branch", INDEX, () -> y.difference(2));
        refused("no such branch", INDEX, () -> y.difference(LOW));
    }

    private static void whatThereIs() {
        RiverSeniority x = new RiverSeniority();
        about("promise 26");
        due("today", x.today(), 0);
        about("promise 27");
        due("placeCount", x.placeCount(), 4);
        about("promise 28");
        due("reachCount", x.reachCount(), 4);
        about("promise 29");
        due("rightCount", x.rightCount(), 4);
        about("promise 30");
        due("capacityAt", x.capacityAt(0, 7), 12);
        refused("reach", INDEX, () -> x.capacityAt(4, 8));
        refused("week", ARGUMENT, () -> x.capacityAt(3, 8));
        refused("week -1", ARGUMENT, () -> x.capacityAt(3, -1));
        about("promise 31");
        due("inflowAt", x.inflowAt(2, 1, 3), 3);
        due("not told", x.inflowAt(1, 1, 3), 0);
        refused("scenario", INDEX, () -> x.inflowAt(3, 0, 8));
        refused("place", INDEX, () -> x.inflowAt(0, 4, 8));
        refused("week", ARGUMENT, () -> x.inflowAt(0, 0, 8));
        about("promise 32");
        due("askedAt", x.askedAt(0, 1, 2), 6);
        due("askedAt", x.askedAt(0, 1, 1), 0);
        refused("scenario", INDEX, () -> x.askedAt(HIGH, 0, 8));
        refused("right", INDEX, () -> x.askedAt(0, 4, 8));
        refused("week", ARGUMENT, () -> x.askedAt(0, 0, LOW));
        about("promise 34");
        due("rankOf(0)", x.rankOf(0), 0);
        due("rankOf(1)", x.rankOf(1), 2);
        due("rankOf(2)", x.rankOf(2), 1);
        due("rankOf(3)", x.rankOf(3), 3);
        x.addRight(0, 1862, 0);
        due("the same year, a greater number", x.rankOf(4), 1);
        x.addRight(0, 1800, 0);
        due("the oldest", x.rankOf(5), 0);
        refused("right", INDEX, () -> x.rankOf(6));
        about("promise 35");
        due("lessorOf", x.lessorOf(5), -1);
        refused("right", INDEX, () -> x.lessorOf(-1));
        about("promise 36");
        due("balance", x.balance(0), 30);
        due("balance", x.balance(1), 0);
        refused("right", INDEX, () -> x.balance(6));
        about("promise 32");
        // What was asked for in a week that is over is known by scenario 0, whatever is decreed later.
        RiverSeniority y = office("basin;place 0 0;right 0 1900 0 ask 0 7 9 decree flow(0);inflow 0 0 4;inflow 1 0 6;");
        due("by scenario 1", y.askedAt(1, 0, 0), 6);
        y.passWeek();
        due("by scenario 1, over", y.askedAt(1, 0, 0), 4);
        say(y, "1");
        y.setDecree(0);
        due("decreed later", y.askedAt(0, 0, 0), 4);
        due("now", y.askedAt(0, 0, 1), 1);
    }

    private static void plans() {
        about("promise 37");
        RiverSeniority x = new RiverSeniority();
        refused("scenario", INDEX, () -> x.amountAt(3, 0, 8));
        refused("right", INDEX, () -> x.amountAt(0, 4, 8));
        refused("week", ARGUMENT, () -> x.amountAt(0, 0, 8));
        refused("week -1", ARGUMENT, () -> x.amountAt(0, 0, -1));
        // An older right takes from later weeks of its own what an earlier week can have, but not from others.
        RiverSeniority y = office("basin;place 9 2;right 0 1900 0 ask 0 3 3;right 0 1950 0 ask 0 0 5;inflow 0 0 3 1;inflow 2 0 9;");
        due("first", y.amountAt(0, 0, 0), 3);
        due("second", y.amountAt(0, 0, 1), 3);
        due("third", y.amountAt(0, 0, 2), 0);
        due("the younger one", y.amountAt(0, 1, 0), 0);
        due("scenario 1", y.amountAt(1, 0, 0), 2);
        due("scenario 2, week 2", y.amountAt(2, 0, 2), 3);
        due("scenario 2, week 3", y.amountAt(2, 0, 3), 2);
        // The reservoir holds 9 only, and water flows in no circle of its own.
        RiverSeniority z = office("basin;place 0 0;place 0 0;reach 0 1 9 0;reach 1 0 9 0;right 0 1900 0 ask 0 0 5;"
            + "right 1 1950 0 ask 0 0 5;inflow 0 1 7;");
        due("by a circle", z.amountAt(0, 0, 0), 5);
        due("what is left", z.amountAt(0, 1, 0), 2);
        about("promise 38");
        due("total", y.total(0), 6);
        due("total of the younger", y.total(1), 0);
        y.passWeek();
        due("total with a week over", y.total(0), 6);
        refused("right", INDEX, () -> y.total(2));
        about("promise 39");
        due("shortage", y.shortage(0, 2), 3);
        due("no shortage", y.shortage(0, 1), 0);
        due("over", y.shortage(1, 0), 5);
        refused("right", INDEX, () -> y.shortage(2, 8));
        refused("week", ARGUMENT, () -> y.shortage(1, 8));
    }

    private static void ways() {
        about("promise 40");
        // Two ways to place 1: the reach with the lesser number sends as little as the other one leaves to it.
        RiverSeniority x = office("basin;place 0 0;place 0 0;reach 0 1 9 0;reach 0 1 4 0;right 1 1900 0 ask 0 0 6;inflow 0 0 9;");
        due("sent(0)", x.sent(0, 0), 2);
        due("sent(1)", x.sent(1, 0), 4);
        due("runOff(0)", x.runOff(0, 0), 3);
        refused("reach", INDEX, () -> x.sent(2, 8));
        refused("week", ARGUMENT, () -> x.sent(1, 8));
        // Present weeks are settled first: what can be stored is sent later.
        RiverSeniority y = office("basin;place 5 5;place 5 0;reach 0 1 3 1;right 1 1900 0 ask 3 3 5;");
        due("sent 0", y.sent(0, 0), 0);
        due("sent 1", y.sent(0, 1), 2);
        due("sent 2", y.sent(0, 2), 3);
        due("sent 3", y.sent(0, 3), 0);
        due("sent 7", y.sent(0, 7), 0);
        about("promise 41");
        due("present", y.storageAt(0, 0), 5);
        due("end of week 1", y.storageAt(0, 2), 3);
        due("end of week 2", y.storageAt(0, 3), 0);
        due("place 1 ahead of week 3", y.storageAt(1, 3), 2);
        due("week 8", y.storageAt(1, 8), 0);
        refused("place", INDEX, () -> y.storageAt(2, 9));
        refused("week 9", ARGUMENT, () -> y.storageAt(1, 9));
        refused("week -1", ARGUMENT, () -> y.storageAt(1, -1));
        about("promise 42");
        RiverSeniority z = office("basin;place 5 4;inflow 0 0 0 3 0 0 0 0 0 9;");
        due("runOff(0, 0)", z.runOff(0, 0), 0);
        due("runOff(0, 1)", z.runOff(0, 1), 2);
        due("runOff(0, 7)", z.runOff(0, 7), 9);
        due("storage at the end", z.storageAt(0, 8), 5);
        z.passWeek();
        z.passWeek();
        z.measure(0, 0);
        due("over", z.runOff(0, 1), 2);
        due("the storage of a week over", z.storageAt(0, 1), 4);
        due("the measured one", z.storageAt(0, 2), 0);
        refused("place", INDEX, () -> z.runOff(1, 8));
        refused("week", ARGUMENT, () -> z.runOff(0, 8));
        about("promise 40");
        // A reach whose water would be lost sends nothing.
        RiverSeniority lost = office("basin;place 0 0;place 0 0;reach 0 1 9 2;right 1 1900 0 ask 0 7 6;"
            + "inflow 0 0 9 9 9 9 9 9 9 9;");
        due("sent 5", lost.sent(0, 5), 6);
        due("sent 6", lost.sent(0, 6), 0);
        due("sent 7", lost.sent(0, 7), 0);
    }

    private static void changedAmounts() {
        about("promise 43");
        RiverSeniority x = office("basin;place 0 0;right 0 1900 0 ask 0 7 3;inflow 0 0 9 9 9 2 0 0 0 0;");
        // Ahead of it right 0 of the first basin got 6 or 7 units: only the right and the weeks behind it count.
        int whole = x.changedAmounts();
        RiverSeniority first = new RiverSeniority();
        int unlike = 0;
        for (int w = 0; w < 8; w++) {
            unlike += first.amountAt(0, 0, w) != x.amountAt(0, 0, w) ? 1 : 0;
        }
        due("readBasin", whole, unlike);
        x.setAsk(0, 0, 7, 2);
        due("three weeks", x.changedAmounts(), 3);
        refused("refused", ARGUMENT, () -> x.setAsk(0, 0, 7, 21));
        due("a refused call tells nothing", x.changedAmounts(), 3);
        x.setAsk(0, 7, 7, 9);
        due("none", x.changedAmounts(), 0);
        x.undo();
        due("undo of none", x.changedAmounts(), 0);
        x.undo();
        due("undo", x.changedAmounts(), 3);
        x.redo();
        due("redo", x.changedAmounts(), 3);
        x.redo();
        x.undo();
        x.undo();
        x.redo();
        due("redo", x.changedAmounts(), 3);
        x.redo();
        due("redo of none", x.changedAmounts(), 0);
        due("nothing to redo", x.redo(), -1);
        x.undo();
        x.undo();
        due("undo", x.changedAmounts(), 3);
        x.createBranch();
        x.switchBranch(1);
        due("branches tell nothing", x.changedAmounts(), 3);
        due("nothing to undo tells nothing", x.undo(), -1);
        due("still", x.changedAmounts(), 3);
        x.passWeek();
        due("passWeek", x.changedAmounts(), 0);
        x.addRight(0, 1950, 0);
        x.setAsk(1, 1, 7, 4);
        // A new right gets 4 in weeks 1 and 2, 0 in week 3.
        due("a new right", x.changedAmounts(), 2);
        x.undo();
        x.undo();
        due("addRight undone", x.changedAmounts(), 0);
        x.undo();
        due("passWeek undone", x.changedAmounts(), 0);
        // A lease: both amounts count, and the number that was not there counts as 0.
        RiverSeniority y = office("basin;place 0 0;right 0 1900 0 ask 0 7 3;inflow 0 0 9;inflow 1 0 9;inflow 2 0 9;");
        y.lease(0, 0, 1, 0, 3);
        due("lease", y.changedAmounts(), 2);
        // A right that is closed as a week passes gets nothing later.
        RiverSeniority z = office("basin;place 0 0;right 0 1900 1 coins 2 ask 0 7 3;inflow 0 0 3 3 3 3 3 3 3 0;");
        z.passWeek();
        due("closed by the passing", z.changedAmounts(), 6);
        z.gauge(0, 0);
        z.undo();
        z.undo();
        due("open by the undo", z.changedAmounts(), 6);
    }

    private static void witnesses() {
        about("promise 44");
        // A reach of 2 units a week to a place without a reservoir: each week is its own witness.
        RiverSeniority x = office("basin;place 9 9;place 0 0;place 0 0;reach 0 1 2 0;reach 1 2 5 0;"
            + "right 2 1900 0 ask 0 1 4;right 1 1950 0 ask 0 0 1;inflow 0 0 9;inflow 0 2 0 1;");
        due("right 0, week 0", x.witnessSize(0, 0), 2);
        due("right 0, week 1", x.witnessSize(0, 1), 2);
        due("right 1, week 0", x.witnessSize(1, 0), 2);
        refused("right", INDEX, () -> x.witnessSize(2, 8));
        refused("week", ARGUMENT, () -> x.witnessSize(1, 8));
        refused("no shortage", ELEMENT, () -> x.witnessSize(1, 1));
        about("promise 45");
        x.mark(0, 7, true);
        due("markWitness", x.markWitness(0, 1), 3);
        due("marked", x.isMarked(2, 1), true);
        due("marked", x.isMarked(1, 1), true);
        due("the marks from before are gone", x.isMarked(0, 7), false);
        due("two marks", x.clearMarks(), 2);
        x.mark(0, 7, true);
        refused("no shortage", ELEMENT, () -> x.markWitness(1, 1));
        refused("right", INDEX, () -> x.markWitness(2, 8));
        refused("week", ARGUMENT, () -> x.markWitness(0, -1));
        due("a refused call leaves the marks", x.clearMarks(), 1);
        // An older amount of a later week holds down an earlier one: the witness has nodes of later weeks.
        RiverSeniority y = office("basin;place 9 4;right 0 1900 0 ask 2 2 4;right 0 1950 0 ask 0 0 1;");
        due("through the reservoir", y.witnessSize(1, 0), 3);
        due("water into it", y.markWitness(1, 0), 4);
        due("taken in it", y.takenInMarks(1, 0), 4);
        y.passWeek();
        refused("week over", ELEMENT, () -> y.witnessSize(1, 0));
        refused("week over", ELEMENT, () -> y.markWitness(1, 0));
        // The least set: not the dry node upstream that cannot be the reason.
        RiverSeniority z = office("basin;place 0 0;place 0 0;reach 0 1 0 0;right 1 1900 0 ask 0 0 3;");
        due("the closed reach bounds it", z.witnessSize(0, 0), 1);
        z.setCapacity(0, 0, 1);
        due("the dry place joins", z.witnessSize(0, 0), 2);
    }

    private static void marks() {
        about("promise 46");
        RiverSeniority x = new RiverSeniority();
        due("mark", x.mark(0, 0, true), false);
        due("mark again", x.mark(0, 0, true), true);
        due("unmark", x.mark(0, 0, false), true);
        due("unmark again", x.mark(0, 0, false), false);
        refused("place", INDEX, () -> x.mark(4, 8, true));
        refused("week", ARGUMENT, () -> x.mark(0, 8, true));
        refused("week -1", ARGUMENT, () -> x.mark(0, -1, true));
        about("promise 48");
        x.mark(3, 7, true);
        due("isMarked", x.isMarked(3, 7), true);
        due("not", x.isMarked(3, 6), false);
        refused("place", INDEX, () -> x.isMarked(4, 8));
        refused("week", ARGUMENT, () -> x.isMarked(3, 8));
        about("promise 47");
        x.mark(0, 0, true);
        say(x, "basin;place 3 2;");
        x.readBasin();
        due("a mark stays at its number", x.isMarked(0, 0), true);
        refused("a place that is not there", INDEX, () -> x.isMarked(3, 7));
        due("water into the marks that count", x.waterIntoMarks(), 2);
        due("clearMarks", x.clearMarks(), 2);
        due("clearMarks again", x.clearMarks(), 0);
        about("promise 49");
        due("no node", x.waterIntoMarks(), 0);
        RiverSeniority y = office("basin;place 7 3;place 0 0;reach 0 1 12 0;reach 0 1 6 1 week 1 4;reach 1 0 9 2;"
            + "right 1 1900 0 ask 0 7 7;right 0 1950 0 ask 0 0 1;inflow 0 0 5 6;inflow 0 1 1 2;inflow 2 0 40 40;");
        y.mark(0, 0, true);
        due("inflow and present storage", y.waterIntoMarks(), 8);
        y.mark(0, 1, true);
        due("a reservoir inside of the set", y.waterIntoMarks(), 14);
        y.mark(0, 0, false);
        due("a reservoir into the set", y.waterIntoMarks(), 13);
        y.mark(0, 1, false);
        y.mark(1, 1, true);
        due("reaches into the set", y.waterIntoMarks(), 2 + 12 + 6);
        y.mark(0, 0, true);
        due("a reach inside of the set", y.waterIntoMarks(), 2 + 12 + 8);
        y.mark(1, 2, true);
        due("a reach of the week ahead", y.waterIntoMarks(), 2 + 12 + 8 + 12 + 4);
        about("promise 50");
        int first = y.amountAt(0, 0, 1);
        int second = y.amountAt(0, 0, 2);
        due("up to week 0", y.takenInMarks(0, 0), 0);
        due("up to week 1", y.takenInMarks(0, 1), first);
        due("up to week 2", y.takenInMarks(0, 2), first + second);
        due("up to the younger one", y.takenInMarks(1, 0), first + second + y.amountAt(0, 1, 0));
        refused("right", INDEX, () -> y.takenInMarks(2, 8));
        refused("week", ARGUMENT, () -> y.takenInMarks(0, 8));
        y.passWeek();
        refused("week over", STATE, () -> y.takenInMarks(0, 0));
        due("marks of weeks over do not count", y.takenInMarks(1, 1), y.amountAt(0, 0, 1) + y.amountAt(0, 0, 2));
        about("promise 49");
        y.clearMarks();
        y.mark(1, 1, true);
        due("what arrives counts", y.waterIntoMarks(), 2 + 12 + y.sent(1, 0));
        y.mark(1, 0, true);
        due("a week over does not", y.waterIntoMarks(), 2 + 12 + y.sent(1, 0));
        about("promise 46");
        due("marking a week over", y.mark(0, 0, true), false);
        due("it bears it", y.isMarked(0, 0), true);
    }

    private static void whatWouldBe() {
        about("promise 51");
        // The reach of 2 bounds both rights at place 1; the older one has enough.
        RiverSeniority x = office("basin;place 0 0;place 0 0;reach 0 1 2 0;right 1 1950 0 ask 0 0 4;right 1 1900 0 ask 0 0 1;"
            + "right 0 1990 0 ask 0 0 9;inflow 0 0 4;");
        due("helpedRight", x.helpedRight(0, 0), 0);
        due("in a week without asks", x.helpedRight(0, 1), -1);
        refused("reach", INDEX, () -> x.helpedRight(1, 8));
        refused("week", ARGUMENT, () -> x.helpedRight(0, 8));
        x.setCapacity(0, 0, 50);
        due("wide enough", x.helpedRight(0, 0), -1);
        about("promise 52");
        x.setCapacity(0, 0, 2);
        // Two units less at place 1 are two units more for the young right at place 0.
        due("closureCost", x.closureCost(0, 0), 0);
        x.abandon(2);
        due("closureCost without it", x.closureCost(0, 0), 2);
        due("a week without asks", x.closureCost(0, 3), 0);
        due("nothing changed", x.capacityAt(0, 0), 2);
        refused("reach", INDEX, () -> x.closureCost(-1, 8));
        refused("week", ARGUMENT, () -> x.closureCost(0, 8));
        x.passWeek();
        refused("helpedRight, week over", STATE, () -> x.helpedRight(0, 0));
        refused("closureCost, week over", STATE, () -> x.closureCost(0, 0));
        // What the old right far away does not get, the young one takes.
        RiverSeniority y = office("basin;place 9 0;place 9 0;reach 0 1 9 2;right 1 1900 0 ask 2 2 3;right 0 1950 0 ask 0 0 9;"
            + "inflow 0 0 3;");
        due("as much for the other one", y.closureCost(0, 0), 0);
        // 50 is not enough for three rights of 20, and 51 is tried.
        due("50 and 1", office("basin;place 0 0;place 0 0;place 0 0;reach 0 1 50 0;right 1 1900 0 ask 0 0 20;right 1 1900 0 ask 0 0 20;"
            + "right 1 1900 0 ask 0 0 20;reach 2 0 50 0;inflow 0 0 40;inflow 0 2 20;").helpedRight(0, 0), 2);
        about("promise 53");
        due("harm", y.harm(1, 0), 3);
        due("no harm to the older one", y.harm(0, 1), 0);
        refused("right", INDEX, () -> y.harm(2, 2));
        refused("other", INDEX, () -> y.harm(0, 2));
        refused("the same", ARGUMENT, () -> y.harm(1, 1));
        // The oldest right takes 5 of 9 units; the second one lives at the end of a reach, the third one gets nothing.
        RiverSeniority z = office("basin;place 0 0;place 0 0;reach 0 1 9 1;right 0 1900 0 ask 0 0 5;right 1 1910 0 ask 1 1 9;"
            + "right 0 1920 0 ask 0 0 9;inflow 0 0 9;");
        due("the third gets", z.amountAt(0, 2, 0), 0);
        due("harm to the second", z.harm(1, 0), 5);
        due("harm to the third", z.harm(2, 0), 0);
        due("harm to the third by the second", z.harm(2, 1), 4);
        due("nothing is different", z.amountAt(0, 1, 1), 4);
    }

    private static void measures() {
        about("promise 56");
        RiverSeniority x = office("basin;place 0 0;right 0 1900 0 ask 0 3 3;right 0 1950 0;inflow 0 0 3 2 1;");
        // Shortages 0, 1, 2, 3 of sixteen pairs.
        due("meanShortage", x.meanShortage(), 6.0 / 16.0);
        x.passWeek();
        due("one week over", x.meanShortage(), 6.0 / 14.0);
        about("promise 57");
        due("servedShare", x.servedShare(), 6.0f / 12.0f);
        x.setAsk(0, 1, 7, 0);
        due("servedShare, week over alone", x.servedShare(), 1.0f);
        RiverSeniority none = office("basin;");
        due("meanShortage without rights", none.meanShortage(), 0.0);
        due("servedShare without rights", none.servedShare(), 0.0f);
        RiverSeniority third = office("basin;place 0 0;right 0 1900 0 ask 0 0 3;inflow 0 0 1;inflow 1 0 9;");
        due("a third", third.servedShare(), 1.0f / 3.0f);
        due("a twelfth", third.meanShortage(), 2.0 / 8.0);
        about("promise 58");
        due("errors", new RiverSeniority().errors(), 0);
        due("errors", x.errors(), 0);
        due("errors of nothing", none.errors(), 0);
    }

    /** What is planned is planned for the first call, too. */
    private static void firstCalls() {
        about("promise 1, with 14, 25, 38, 39, 40, 41, 42, 44, 50, 51, 52, 53, 56 and 57");
        RiverSeniority x = new RiverSeniority();
        x.amountAt(0, 0, 0);
        due("abandon", new RiverSeniority().abandon(0), x.total(0));
        due("total", new RiverSeniority().total(1), x.total(1));
        due("shortage", new RiverSeniority().shortage(0, 0), 1);
        due("sent", new RiverSeniority().sent(0, 0), x.sent(0, 0));
        due("storageAt", new RiverSeniority().storageAt(0, 1), x.storageAt(0, 1));
        due("runOff", new RiverSeniority().runOff(0, 7), x.runOff(0, 7));
        due("witnessSize", new RiverSeniority().witnessSize(0, 0), x.witnessSize(0, 0));
        due("helpedRight", new RiverSeniority().helpedRight(2, 0), 0);
        due("closureCost", new RiverSeniority().closureCost(0, 2), x.closureCost(0, 2));
        due("harm", new RiverSeniority().harm(2, 0), x.harm(2, 0));
        due("a harm", x.harm(2, 0) > 0, true);
        due("meanShortage", new RiverSeniority().meanShortage(), x.meanShortage());
        due("servedShare", new RiverSeniority().servedShare(), x.servedShare());
        RiverSeniority y = new RiverSeniority();
        y.mark(3, 0, true);
        due("takenInMarks", y.takenInMarks(0, 0), 6);
        RiverSeniority z = new RiverSeniority();
        z.createBranch();
        z.switchBranch(1);
        z.addRight(0, 1990, 0);
        due("difference", z.difference(0), 0);
    }

    private static void yearOver() {
        about("promise 8 to 58, when the year is over");
        RiverSeniority x = over();
        due("today", x.today(), 8);
        refused("setCapacity", STATE, () -> x.setCapacity(0, 7, 1));
        refused("setAsk", STATE, () -> x.setAsk(0, 7, 7, 1));
        refused("setInflow", STATE, () -> x.setInflow(0, 0, 7, 1));
        refused("gauge", STATE, () -> x.gauge(0, 1));
        refused("gauge, amount", ARGUMENT, () -> x.gauge(0, 41));
        refused("measure", STATE, () -> x.measure(0, 1));
        refused("measure, storage", ARGUMENT, () -> x.measure(0, 21));
        refused("passWeek", STATE, () -> x.passWeek());
        refused("lease", STATE, () -> x.lease(0, 0, 1, 7, 7));
        refused("injuredRight", STATE, () -> x.injuredRight(0, 0, 1, 7, 7));
        refused("greatestLease", STATE, () -> x.greatestLease(0, 0, 7, 7));
        refused("helpedRight", STATE, () -> x.helpedRight(0, 7));
        refused("closureCost", STATE, () -> x.closureCost(0, 7));
        refused("takenInMarks", STATE, () -> x.takenInMarks(0, 7));
        refused("witnessSize", ELEMENT, () -> x.witnessSize(0, 7));
        refused("markWitness", ELEMENT, () -> x.markWitness(0, 7));
        x.mark(0, 7, true);
        due("waterIntoMarks", x.waterIntoMarks(), 0);
        due("harm", x.harm(0, 1), 0);
        due("meanShortage", x.meanShortage(), 0.0);
        due("errors", x.errors(), 0);
        due("abandon", x.abandon(0), 0);
        due("addPlace", x.addPlace(7, 5), 4);
        due("its storage", x.storageAt(4, 8), 5);
        due("its storage ahead", x.storageAt(4, 7), 0);
        due("addReach", x.addReach(0, 4, 1, 1), 4);
        due("addRight", x.addRight(4, 1900, 1), 4);
        say(x, "week");
        due("setDecree", x.setDecree(4), 1);
        due("fund", x.fund(4, 7), 7);
        due("changedAmounts", x.changedAmounts(), 0);
        due("text", written(x).contains("place 7 5;"), true);
        due("undo", x.undo(), 5);
        x.createBranch();
        due("difference", x.difference(1), 0);
        due("sum of the year", x.total(2) > 0, true);
        say(x, "basin;");
        due("readBasin", x.readBasin(), 0);
        due("today", x.today(), 0);
        due("undo", x.undo(), 5);
        due("today", x.today(), 8);
    }
}
