/** Section 9, the texts of basins, sentence by sentence: what is read, where the reading stops, and what is written. */
public final class TextsTest extends Checks {
    private static final String TWO = "basin;place 9 0;place 9 9;";

    public static void main(String[] args) {
        buffer();
        bytes();
        wordsAndNumbers();
        spaces();
        order();
        placeStatements();
        reachStatements();
        rightStatements();
        asksInTexts();
        inflowStatements();
        tooMany();
        whatIsToldLaterCounts();
        emptiesTheBuffer();
        errorPositions();
        writtenPlacesAndReaches();
        writtenRights();
        writtenAsks();
        writtenInflows();
        whatIsNotWritten();
        readAgain();
        finish();
    }

    private static void stops(String text, int position) {
        due(text, stop(text), position);
    }

    /** The reading stops at the first place of the second text in the first one. */
    private static void stopsAt(String text, String token) {
        due(text, stop(text), text.indexOf(token));
    }

    private static void reads(String text) {
        due(text, stop(text), NONE);
    }

    // ---------------------------------------------------------------- reading

    private static void buffer() {
        about("a basin is read from a buffer of at most 900 bytes");
        reads("basin;" + " ".repeat(894));
        stops("basin;" + " ".repeat(893) + "x", 899);
        stops("basin" + " ".repeat(895), 900);
        RiverSeniority x = new RiverSeniority();
        say(x, "basin;" + " ".repeat(894));
        refused("the 901st byte", STATE, () -> x.append(0, 0, 0, 0, ';'));
        due("none at all", x.append(0, 0, 0, 0, 0), 900);
        due("readBasin", x.readBasin(), 0);
        due("room again", x.append(-1, -1, -1, -1, -1), 20);
    }

    private static void bytes() {
        about("all other bytes are no tokens");
        for (int one = 1; one < 256; one++) {
            boolean fits = "+-*/0123456789".indexOf(one) >= 0;
            int position = fits ? NONE : one == ' ' ? 2 : 1;
            due("byte " + one, decreeStop("1" + (char) one + "1"), position);
        }
        about("a byte of each parameter, at each of its four places");
        for (int place = 0; place < 4; place++) {
            RiverSeniority x = new RiverSeniority();
            int bits = '1' << 8 * place;
            due("a", x.append(bits, 0, 0, 0, 0), 1);
            due("b", x.append(0, bits, 0, 0, 0), 2);
            due("c", x.append(0, 0, bits, 0, 0), 3);
            due("d", x.append(0, 0, 0, bits, 0), 4);
            due("setDecree", x.setDecree(0), 1);
            due("value", x.decreeValue(0, 0, 0), 1111);
            due("e", x.append(0, 0, 0, 0, bits), 1);
        }
        about("the most significant byte first, in the order of the parameters");
        RiverSeniority x = new RiverSeniority();
        x.append(0x31322b33, 0x2a343536, 0, 0x00370000, 0x2d003139);
        due("setDecree", x.setDecree(0), 7);
        due("12+3*4567-19", x.decreeValue(0, 0, 0), 12 + 3 * 4567 - 19);
        about("bytes above 127 are bytes as others, but no tokens");
        due("append", x.append(0x31800000, 0xff, 0, 0, 0), 3);
        refused("setDecree", ARGUMENT, () -> x.setDecree(0));
        due("errorPosition", x.errorPosition(), 1);
    }

    private static void wordsAndNumbers() {
        about("a word is a maximal run of letters from a to z");
        stops("bas in;", 0);
        stops("basinbasin;", 0);
        stops("basin;placeplace 1 1;", 6);
        stops("basin;plac 1 1;", 6);
        stops("BASIN;", 0);
        stops("basiN;", 0);
        stops("basin`;", 5);
        stops("basin{;", 5);
        about("a number is a maximal run of 1 to 4 digits, leading zeros included");
        reads("basin;place 0060 0000;");
        stops("basin;place 00060 0;", 12);
        stops("basin;place 0 00000;", 14);
        stops("basin;place 1 1:;", 15);
        stops("basin;place 1 1/;", 15);
        stops("basin;place -1 1;", 12);
        stops("basin;place 1.5 1;", 13);
        about("words and numbers need no spaces between them");
        reads("basin;place9 9;place9 0;reach0 1 9 0week7 1;right0 1900 0ask0 7 3coins5decree1+week;inflow0 0 9;");
        about("signs are tokens of their own");
        reads("basin;place 0 0;right 0 1900 0 decree((week)+1)*2-3/4;");
        stops("basin;;", 6);
        stops("basin:;", 5);
    }

    private static void spaces() {
        about("spaces may stand ahead of, between and behind tokens");
        reads("   basin   ;   place   1   1   ;   ");
        reads("basin;place 1 1 ;");
        stops("basin;place 1 1;\t", 16);
        stops("\nbasin;", 0);
        stops("basin;place\u00a01 1;", 11);
        about("but not inside of them");
        stops("basin;place 1 1;place 1 1 1;", 26);
        stops("basin;pla ce 1 1;", 6);
    }

    private static void order() {
        about("statements may come in any order, but what they name must be there already");
        reads("basin;place 0 0;right 0 1900 0;place 0 0;inflow 0 1 1;reach 0 1 1 1;right 1 1900 0;place 0 0;inflow 2 2 1;");
        stopsAt("basin;right 0 1900 0;", "0 1900");
        stopsAt("basin;inflow 0 0 1;place 0 0;", "0 1;");
        stopsAt("basin;place 0 0;reach 0 1 1 1;place 0 0;", "1 1 1;");
        stopsAt("basin;place 0 0;right 1 1900 0;place 0 0;", "1 1900");
        about("the text begins with basin, once");
        stops("place 1 1;", 0);
        stops(";basin;", 0);
        stops("basin;basin;", 6);
        stops("basin;week 1 1;", 6);
        stops("basin;coins 1;", 6);
        stops("basin;ask 0 0 1;", 6);
        stops("basin;decree 1;", 6);
        stops("basin;7;", 6);
        about("each statement ends with a semicolon");
        stops("basin", 5);
        stops("basin;place 1 1", 15);
        stops("basin;place 1 1 place 1 1;", 16);
        stops("basin;place 1;", 13);
        stops("basin;place;", 11);
    }

    private static void placeStatements() {
        about("place: the capacity 0 to 60, the storage 0 to the capacity");
        reads("basin;place 0 0;place 60 0;place 60 60;");
        stopsAt("basin;place 61 0;", "61");
        stopsAt("basin;place 9999 0;", "9999");
        stopsAt("basin;place 0 1;", "1;");
        stopsAt("basin;place 59 60;", "60");
        stopsAt("basin;place 1 place;", "place;");
        stopsAt("basin;place 1 1 2;", "2;");
        stopsAt("basin;place 1,1;", ",");
    }

    private static void reachStatements() {
        about("reach: from and to are places and unlike");
        reads(TWO + "reach 0 1 0 0;reach 1 0 50 2;");
        stopsAt(TWO + "reach 2 0 1 1;", "2 0 1 1");
        stopsAt(TWO + "reach 0 2 1 1;", "2 1 1");
        stopsAt(TWO + "reach 0 0000 1 1;", "0000");
        stopsAt(TWO + "reach 1 1 5 1;", "1 5 1");
        stopsAt(TWO + "reach 2 2 1 1;", "2 2 1 1");
        about("reach: the capacity is 0 to 50, the time 0 to 2");
        stopsAt(TWO + "reach 0 1 51 0;", "51");
        stopsAt(TWO + "reach 0 1 50 3;", "3;");
        stopsAt(TWO + "reach 0 1 50;", ";", TWO.length());
        about("week: a week from 0 to 7 and its capacity from 0 to 50");
        reads(TWO + "reach 0 1 9 0 week 0 0 week 7 50;");
        stopsAt(TWO + "reach 0 1 9 0 week 8 5;", "8 5");
        stopsAt(TWO + "reach 0 1 9 0 week 7 51;", "51");
        stopsAt(TWO + "reach 0 1 9 0 week 7;", ";", TWO.length());
        stopsAt(TWO + "reach 0 1 9 0 week;", ";", TWO.length());
        stopsAt(TWO + "reach 0 1 9 0 7 5;", "7 5");
        stopsAt(TWO + "reach 0 1 9 0 week 7 5 6;", "6;");
        RiverSeniority x = office(TWO + "reach 0 1 9 0 week 0 0 week 7 50;");
        due("week 0", x.capacityAt(0, 0), 0);
        due("week 1", x.capacityAt(0, 1), 9);
        due("week 6", x.capacityAt(0, 6), 9);
        due("week 7", x.capacityAt(0, 7), 50);
    }

    private static void stopsAt(String text, String token, int from) {
        due(text, stop(text), text.indexOf(token, from));
    }

    private static void rightStatements() {
        about("right: a place, a year from 1800 to 2099, a price from 0 to 9");
        reads(TWO + "right 1 1800 0;right 0 2099 9;");
        stopsAt(TWO + "right 2 1900 1;", "2 1900");
        stopsAt(TWO + "right 1 1799 1;", "1799");
        stopsAt(TWO + "right 1 2100 1;", "2100");
        stopsAt(TWO + "right 1 1900 10;", "10;");
        stopsAt(TWO + "right 1 1900;", ";", TWO.length());
        about("coins: 0 to 1000");
        reads(TWO + "right 1 1900 1 coins 0;right 1 1900 1 coins 1000;");
        stopsAt(TWO + "right 1 1900 1 coins 1001;", "1001");
        stopsAt(TWO + "right 1 1900 1 coins;", ";", TWO.length());
        RiverSeniority x = office(TWO + "right 1 1900 1 coins 1000;right 1 1900 1 coins 0;");
        due("1000", x.balance(0), 1000);
        due("0", x.balance(1), 0);
        about("decree: an expression");
        stopsAt(TWO + "right 1 1900 1 decree;", ";", TWO.length());
        stopsAt(TWO + "right 1 1900 1 decree 1 2;", "2;");
        stopsAt(TWO + "right 1 1900 1 decree 1+;", ";", TWO.length());
        stopsAt(TWO + "right 1 1900 1 decree ask 0 0 1;", "ask");
        stopsAt(TWO + "right 1 1900 1 decree (((((((((1)))))))));", "(1");
        stopsAt(TWO + "right 1 1900 1 week 0 1;", "week");
        reads(TWO + "right 1 1900 1 decree if week<4 then 1 else 2 coins 5 ask 0 7 1 decree flow(1);");
    }

    private static void asksInTexts() {
        about("ask: the first and the last week, not less than the first, and an ask from 0 to 20");
        reads(TWO + "right 1 1900 1 ask 0 0 0 ask 7 7 20 ask 0 7 3;");
        stopsAt(TWO + "right 1 1900 1 ask 8 8 3;", "8 8");
        stopsAt(TWO + "right 1 1900 1 ask 0 8 3;", "8 3");
        stopsAt(TWO + "right 1 1900 1 ask 5 4 3;", "4 3");
        stopsAt(TWO + "right 1 1900 1 ask 7 6 3;", "6 3");
        stopsAt(TWO + "right 1 1900 1 ask 0 7 21;", "21");
        stopsAt(TWO + "right 1 1900 1 ask 0 7;", ";", TWO.length());
        stopsAt(TWO + "right 1 1900 1 ask 0 7 1 2;", "2;");
        RiverSeniority x = office(TWO + "right 1 1900 1 ask 0 0 1 ask 3 5 2 ask 7 7 20;");
        due("asks", asks(x, 0, 0), "1 0 0 2 2 2 0 20");
    }

    private static void inflowStatements() {
        about("inflow: a scenario, a place, and at most 8 inflows from 0 to 40, at least one");
        reads(TWO + "inflow 0 0 0;inflow 2 1 40 40 40 40 40 40 40 40;");
        stopsAt(TWO + "inflow 3 0 1;", "3 0");
        stopsAt(TWO + "inflow 0 2 5;", "2 5");
        stopsAt(TWO + "inflow 0 1 41;", "41");
        stopsAt(TWO + "inflow 0 1 0 0 0 0 0 0 0 41;", "41");
        stopsAt(TWO + "inflow 0 1;", ";", TWO.length());
        stopsAt(TWO + "inflow 0 1 1 2 3 4 5 6 7 8 40;", "40");
        stopsAt(TWO + "inflow 0 1 1 2 3 4 5 6 7 8 9999;", "9999");
        stopsAt(TWO + "inflow 0 1 1 2 3 week;", "week");
        about("weeks that are not told keep what they have");
        RiverSeniority x = office(TWO + "inflow 1 1 1 2 3 4 5 6 7 8;inflow 1 1 9 9;inflow 1 0 4;inflow 0 1 3;");
        int[] due = {9, 9, 3, 4, 5, 6, 7, 8};
        for (int week = 0; week < 8; week++) {
            due("week " + week, x.inflowAt(1, 1, week), due[week]);
            due("another place", x.inflowAt(1, 0, week), week == 0 ? 4 : 0);
            due("another scenario", x.inflowAt(0, 1, week), week == 0 ? 3 : 0);
            due("a scenario without", x.inflowAt(2, 1, week), 0);
        }
    }

    private static void tooMany() {
        about("the word place of a 7th place, reach of a 10th reach, right of an 11th right does not fit");
        String six = "basin;" + "place 0 0;".repeat(6);
        reads(six);
        stops(six + "place 0 0;", six.length());
        stops(six + "place", six.length());
        stops(six + "place x", six.length());
        String nine = six + "reach 5 4 1 0;".repeat(9);
        reads(nine);
        stops(nine + "reach 5 4 1 0;", nine.length());
        stops(nine + "reach;", nine.length());
        String ten = nine + "right 5 1900 1;".repeat(10);
        reads(ten);
        stops(ten + "right 5 1900 1;", ten.length());
        stops(ten + "right", ten.length());
        reads(ten + "inflow 2 5 1;".repeat(40));
    }

    private static void whatIsToldLaterCounts() {
        about("what is told later counts");
        RiverSeniority x = office(TWO + "reach 0 1 9 0 week 3 1 week 3 2 week 2 5 week 2 9;"
            + "right 0 1900 1 coins 5 ask 0 7 1 decree 1 ask 2 4 2 coins 0 ask 3 3 0 decree week;"
            + "inflow 0 0 1 1 1;inflow 0 0 2 2;inflow 0 0 3;");
        due("text", written(x), TWO + "reach 0 1 9 0 week 3 2;right 0 1900 1 ask 0 1 1 ask 2 2 2 ask 4 4 2 ask 5 7 1 decree week;"
            + "inflow 0 0 3 2 1 0 0 0 0 0;");
    }

    private static void emptiesTheBuffer() {
        about("readBasin empties the buffer, also if the text has an error; the bytes behind the error are gone, too");
        RiverSeniority x = new RiverSeniority();
        say(x, "x basin;");
        refused("readBasin", ARGUMENT, () -> x.readBasin());
        due("clearText", x.clearText(), 0);
        say(x, "basin;place 1 1;");
        due("readBasin", x.readBasin(), 0);
        refused("nothing is left", ARGUMENT, () -> x.readBasin());
        due("placeCount", x.placeCount(), 1);
        due("append from the start", x.append('b', 0, 0, 0, 0), 1);
        about("clearText empties the buffer alone");
        due("clearText", x.clearText(), 1);
        due("errorPosition stays", x.errorPosition(), 0);
    }

    private static void errorPositions() {
        about("the error position is the first byte of the first token that does not fit");
        stops("   place", 3);
        stops("basin;place 1 1;place  99 1;place 77", 23);
        stops("basin;place 1 12345;", 14);
        stops("basin;place 1 1;reach ; x", 22);
        about("the error position is the length of the text if it ends too early");
        stops("", 0);
        stops("  ", 2);
        stops("basin", 5);
        stops("basin  ", 7);
        stops("basin;place", 11);
        stops("basin;place 1 1  ", 17);
        about("the error position is that of the latest readBasin or setDecree that read the buffer");
        RiverSeniority x = new RiverSeniority();
        due("none yet", x.errorPosition(), NONE);
        say(x, "basin;?");
        refused("readBasin", ARGUMENT, () -> x.readBasin());
        due("6", x.errorPosition(), 6);
        x.clearText();
        x.append('1', 0, 0, 0, 0);
        refused("a setDecree that does not read", INDEX, () -> x.setDecree(4));
        due("6 still", x.errorPosition(), 6);
        due("setDecree", x.setDecree(0), 1);
        due("NONE", x.errorPosition(), NONE);
        say(x, "1 1");
        refused("setDecree", ARGUMENT, () -> x.setDecree(0));
        due("2", x.errorPosition(), 2);
        x.undo();
        x.createBranch();
        x.switchBranch(1);
        due("it belongs to no branch", x.errorPosition(), 2);
        say(x, "basin;");
        x.readBasin();
        due("NONE again", x.errorPosition(), NONE);
    }

    // ---------------------------------------------------------------- writing

    private static void isWritten(String from, String want) {
        due(from, written(office(from)), want);
    }

    private static void staysAsItIs(String text) {
        isWritten(text, text);
    }

    private static void writtenPlacesAndReaches() {
        about("a written text is basin, then places, reaches, rights and inflows, each by ascending numbers");
        staysAsItIs("basin;");
        isWritten(" basin ; place 07 0 ; right 0 1900 0 ; place 8 8 ; inflow 1 0 1 ; reach 1 0 4 2 ; ",
            "basin;place 7 0;place 8 8;reach 1 0 4 2;right 0 1900 0;inflow 1 0 1 0 0 0 0 0 0 0;");
        about("reach has the capacity of week 0, then week for each week whose capacity is another one");
        staysAsItIs(TWO + "reach 0 1 0 0;");
        staysAsItIs(TWO + "reach 0 1 50 2 week 1 0;");
        staysAsItIs(TWO + "reach 0 1 50 2 week 7 49;");
        staysAsItIs(TWO + "reach 0 1 5 1 week 1 6 week 2 7 week 3 6 week 4 7 week 5 6 week 6 7 week 7 6;");
        isWritten(TWO + "reach 0 1 5 1 week 0 6;",
            TWO + "reach 0 1 6 1 week 1 5 week 2 5 week 3 5 week 4 5 week 5 5 week 6 5 week 7 5;");
        isWritten(TWO + "reach 0 1 5 1 week 4 5;", TWO + "reach 0 1 5 1;");
    }

    private static void writtenRights() {
        about("right has coins if its balance is above 0, with 1000 if it is greater");
        String right = "basin;place 9 9;right 0 1900 1";
        isWritten(right + " coins 0;", right + ";");
        staysAsItIs(right + " coins 1;");
        staysAsItIs(right + " coins 999;");
        staysAsItIs(right + " coins 1000;");
        RiverSeniority x = office(right + " coins 1000;");
        x.fund(0, 1);
        due("1001", written(x), right + " coins 1000;");
        RiverSeniority y = passed(office(right + " ask 0 0 1;"), 1);
        due("below 0", written(y), "basin;place 9 8;right 0 1900 1 ask 0 0 1;");
        about("the tokens of a decree, as they were read, numbers without leading zeros");
        isWritten(right + " decree if(week)<007 then least(1,0)else total(0000)/10-flow(1)*most(2,3)>;".replace(">", ""),
            right + " decree if ( week ) < 7 then least ( 1 , 0 ) else total ( 0 ) / 10 - flow ( 1 ) * most ( 2 , 3 );");
        isWritten(right + " decree if 1=0100 then 1000 else if 1>9999 then 0 else 20+30;",
            right + " decree if 1 = 100 then 1000 else if 1 > 9999 then 0 else 20 + 30;");
        isWritten(right + " decree 1 ask 0 0 2 coins 3;", right + " coins 3 ask 0 0 2 decree 1;");
    }

    private static void writtenAsks() {
        about("ask for each maximal run of weeks that have the same ask above 0");
        String right = "basin;place 9 9;right 0 1900 1";
        isWritten(right + " ask 0 7 0;", right + ";");
        staysAsItIs(right + " ask 0 0 1;");
        staysAsItIs(right + " ask 7 7 20;");
        staysAsItIs(right + " ask 0 7 20;");
        staysAsItIs(right + " ask 0 6 20;");
        staysAsItIs(right + " ask 1 7 20;");
        staysAsItIs(right + " ask 0 0 1 ask 2 2 1;");
        staysAsItIs(right + " ask 0 5 1 ask 6 6 2 ask 7 7 3;");
        isWritten(right + " ask 0 3 5 ask 4 7 5;", right + " ask 0 7 5;");
        isWritten(right + " ask 0 7 5 ask 3 3 0;", right + " ask 0 2 5 ask 4 7 5;");
        about("the asks as they stand, also of closed and abandoned rights and in weeks that are over");
        RiverSeniority x = passed(office(right + " ask 0 3 5;right 0 1901 0 ask 0 7 1 decree 0;"), 1);
        x.abandon(1);
        due("text", written(x), "basin;place 9 4;right 0 1900 1 ask 0 3 5;right 0 1901 0 ask 0 7 1 decree 0;");
    }

    private static void writtenInflows() {
        about("inflow for those that have an inflow above 0, by ascending scenarios and places, with all 8 numbers");
        isWritten(TWO + "inflow 2 1 1;inflow 2 0 0 0 0 0 0 0 0 9;inflow 0 1 2;inflow 1 0 0;inflow 0 0 3;", TWO
            + "inflow 0 0 3 0 0 0 0 0 0 0;inflow 0 1 2 0 0 0 0 0 0 0;inflow 2 0 0 0 0 0 0 0 0 9;inflow 2 1 1 0 0 0 0 0 0 0;");
        RiverSeniority x = office(TWO + "inflow 0 0 1;");
        x.setInflow(0, 0, 0, 0);
        due("none any more", written(x), TWO);
        x.setInflow(0, 0, 5, 10);
        due("in week 5", written(x), TWO + "inflow 0 0 0 0 0 0 0 10 0 0;");
        RiverSeniority y = passed(x, 6);
        due("a week that is over", written(y).endsWith("inflow 0 0 0 0 0 0 0 10 0 0;"), true);
    }

    private static void whatIsNotWritten() {
        about("the text tells nothing else: not the week, what is on its way, closed or abandoned rights, lessors, debts");
        RiverSeniority x = office("basin;place 9 9;place 0 0;reach 0 1 9 2;right 1 1900 9 ask 2 2 5;right 0 1910 9 ask 0 0 1;");
        x.passWeek();
        x.abandon(0);
        x.fund(1, 9);
        x.setAsk(1, 3, 3, 4);
        x.lease(1, 1, 4, 3, 3);
        String text = written(x);
        due("text", text, "basin;place 9 3;place 0 0;reach 0 1 9 2;right 1 1900 9 ask 2 2 5;right 0 1910 9 ask 0 0 1;"
            + "right 1 1910 9 ask 3 3 4;");
        say(x, text);
        x.readBasin();
        due("the week is 0", x.today(), 0);
        due("nothing is on its way", x.runOff(1, 2), 0);
        due("not abandoned", x.askedAt(0, 0, 2), 5);
        due("no lessor", x.lessorOf(2), NONE);
        due("a balance of 0", x.balance(1), 0);
        due("its root is its number", x.rankOf(2), 2);
        due("nothing was sent", x.sent(0, 0), 3);
    }

    private static void readAgain() {
        about("what is written can be read, and is written in the same way again");
        staysAsItIs(FIRST);
        due("the first basin", written(new RiverSeniority()), FIRST);
        about("writeBasin writes in place of the text before; a byte is told by its index from 0");
        RiverSeniority x = new RiverSeniority();
        refused("nothing was written", INDEX, () -> x.writtenAt(0));
        int length = x.writeBasin();
        due("length", length, FIRST.length());
        due("the last byte", x.writtenAt(length - 1), (int) ';');
        refused("behind it", INDEX, () -> x.writtenAt(length));
        say(x, "basin;");
        x.readBasin();
        due("it stays until the next writing", x.writtenAt(length - 1), (int) ';');
        due("a shorter one", x.writeBasin(), 6);
        due("its last byte", x.writtenAt(5), (int) ';');
        refused("nothing of the text before", INDEX, () -> x.writtenAt(6));
        x.createBranch();
        x.switchBranch(1);
        due("the written text belongs to no branch", x.writtenAt(0), (int) 'b');
    }
}
