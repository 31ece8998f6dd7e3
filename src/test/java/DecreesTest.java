/** Section 3, the decrees, sentence by sentence: their values, and how many tokens and levels they may have. */
public final class DecreesTest extends Checks {
    /** 2 to the power of 31, which is the least int. */
    private static final String LEAST_INT = "2*4*8*32*1024*1024";
    private static final String GREATEST_INT = LEAST_INT + "-1";

    public static void main(String[] args) {
        sums();
        products();
        quotients();
        leastAndMost();
        weeksAndInflows();
        conditions();
        grammar();
        tokens();
        levels();
        levelsOfConditions();
        replacing();
        finish();
    }

    private static int value(String text) {
        RiverSeniority x = new RiverSeniority();
        decree(x, 0, text);
        return x.decreeValue(0, 0, 0);
    }

    private static void is(String text, int want) {
        due(text, value(text), want);
    }

    private static void stops(String text, int position) {
        due(text, decreeStop(text), position);
    }

    private static void sums() {
        about("+ and - are those of int, with overflow");
        is("0", 0);
        is("9999", 9999);
        is("0-9999", -9999);
        is("0-1", -1);
        is(LEAST_INT, LOW);
        is(GREATEST_INT, HIGH);
        is("(" + GREATEST_INT + ")+1", LOW);
        is("0-" + LEAST_INT, LOW);
        is("0-(" + GREATEST_INT + ")-2", HIGH);
        about("operations of one rank are done from left to right");
        is("1-2-3", -4);
        is("1-2+3", 2);
        is("1-(2+3)", -4);
        is("1+2-3+4-5", -1);
    }

    private static void products() {
        about("* is that of int, with overflow");
        is("0*9999", 0);
        is("(0-3)*4", -12);
        is("(0-3)*(0-4)", 12);
        is("9999*9999*9999", 9999 * 9999 * 9999);
        is("(" + GREATEST_INT + ")*2", -2);
        is("(" + LEAST_INT + ")*(0-1)", LOW);
        about("* and / are ahead of + and -");
        is("1+2*3", 7);
        is("2*3+1", 7);
        is("8-6/2", 5);
        is("6/2-8", -5);
        is("(1+2)*3", 9);
        about("* and / are of one rank");
        is("7/2*2", 6);
        is("2*7/2", 7);
        is("2*3/4*5", 5);
        is("100/10/5", 2);
        is("100/(10/5)", 50);
    }

    private static void quotients() {
        about("a quotient is rounded toward 0");
        is("6/3", 2);
        is("7/3", 2);
        is("8/3", 2);
        is("2/3", 0);
        is("(0-2)/3", 0);
        is("(0-7)/3", -2);
        is("(0-8)/3", -2);
        is("7/(0-3)", -2);
        is("(0-7)/(0-3)", 2);
        is("0/7", 0);
        about("a quotient is 0 if the divisor is 0");
        is("0/0", 0);
        is("1/0", 0);
        is("(0-1)/0", 0);
        is("(" + LEAST_INT + ")/0", 0);
        is("5/(3-3)+2", 2);
        is("5/0/0", 0);
        about("/ overflows, too");
        is(LEAST_INT + "/(0-1)", LOW);
        is("(" + GREATEST_INT + ")/(0-1)", -HIGH);
        is(LEAST_INT + "/1", LOW);
        is(LEAST_INT + "/2", LOW / 2);
    }

    private static void leastAndMost() {
        about("least and most are the lesser and the greater one of both values");
        is("least(2,3)", 2);
        is("least(3,2)", 2);
        is("least(3,3)", 3);
        is("most(2,3)", 3);
        is("most(3,2)", 3);
        is("most(3,3)", 3);
        is("least(0-2,1)", -2);
        is("most(0-2,1)", 1);
        is("least(" + LEAST_INT + "," + GREATEST_INT + ")", LOW);
        is("most(" + LEAST_INT + "," + GREATEST_INT + ")", HIGH);
        is("least(" + GREATEST_INT + "," + LEAST_INT + ")", LOW);
        is("least(most(1,5),most(7,3))", 5);
        is("least(if 1<2 then 8 else 0,9)-1", 7);
    }

    private static void weeksAndInflows() {
        about("week is the week, also the first, the last, and one that is over");
        RiverSeniority x = new RiverSeniority();
        decree(x, 0, "week");
        x.passWeek();
        for (int week = 0; week < 8; week++) {
            due("week " + week, x.decreeValue(2, 0, week), week);
        }
        about("flow is the inflow of the place in the week by the scenario");
        String text = "basin;" + "place 0 0;".repeat(6) + "right 3 1900 0;inflow 0 0 1 2 3 4 5 6 7 8;inflow 0 5 40 0 0 0 0 0 0 11;"
            + "inflow 1 5 12;inflow 2 5 0 0 0 0 0 0 0 13;";
        RiverSeniority y = office(text);
        decree(y, 0, "flow(0)");
        for (int week = 0; week < 8; week++) {
            due("week " + week, y.decreeValue(0, 0, week), week + 1);
            due("scenario 1", y.decreeValue(1, 0, week), 0);
        }
        decree(y, 0, "flow(5)");
        due("the last place", y.decreeValue(0, 0, 0), 40);
        due("in the last week", y.decreeValue(0, 0, 7), 11);
        due("by scenario 1", y.decreeValue(1, 0, 0), 12);
        due("by scenario 2", y.decreeValue(2, 0, 7), 13);
        about("total is the sum of the inflows of the place in the weeks 0 to 7 by the scenario");
        decree(y, 0, "total(0)*100+total(5)");
        due("scenario 0", y.decreeValue(0, 0, 3), 3651);
        due("scenario 1", y.decreeValue(1, 0, 3), 12);
        due("scenario 2", y.decreeValue(2, 0, 3), 13);
        y.passWeek();
        due("with a week that is over", y.decreeValue(0, 0, 7), 3651);
        y.gauge(5, 20);
        due("with a week that was gauged", y.decreeValue(0, 0, 0), 3671);
        about("flow and total are 0 if there is no such place");
        for (String place : new String[] {"6", "0-1", "9999", LEAST_INT, GREATEST_INT}) {
            decree(y, 0, "flow(" + place + ")+total(" + place + ")");
            due("place " + place, y.decreeValue(0, 0, 0), 0);
        }
        RiverSeniority z = office("basin;place 0 0;right 0 1900 0 decree flow(1)+total(1);");
        due("it is not there yet", z.decreeValue(0, 0, 0), 0);
        z.addPlace(0, 0);
        z.setInflow(0, 1, 0, 3);
        due("it is there", z.decreeValue(0, 0, 0), 6);
        about("the place is an expression, too");
        is("flow(flow(1)-1)", 6);
        is("total(if week=0 then 1 else 0)", 7);
    }

    private static void conditions() {
        about("if has the value behind then if the comparison holds, otherwise that behind else");
        String[] signs = {"<", ">", "="};
        int[][] due = {{1, 0, 0}, {0, 1, 0}, {0, 0, 1}};
        String[] pairs = {"2%3", "3%2", "2%2"};
        for (int sign = 0; sign < 3; sign++) {
            for (int pair = 0; pair < 3; pair++) {
                String comparison = pairs[pair].replace("%", signs[sign]);
                is("if " + comparison + " then 1 else 0", due[sign][pair]);
            }
        }
        is("if " + LEAST_INT + "<" + GREATEST_INT + " then 1 else 0", 1);
        is("if " + GREATEST_INT + ">" + LEAST_INT + " then 1 else 0", 1);
        is("if " + LEAST_INT + ">" + GREATEST_INT + " then 1 else 0", 0);
        is("if 0-1<0 then 1 else 0", 1);
        about("what stands in a condition are sums and expressions");
        is("if 1+1=2*1 then 3+4 else 5", 7);
        is("if 1=2 then 3 else 4+5", 9);
        is("if 1=2 then 3 else if 1=1 then 4 else 5", 4);
        is("if 1=1 then if 1=2 then 3 else 4 else 5", 4);
        is("if (if 1=1 then 2 else 3)=2 then 6 else 7", 6);
        is("(if 1=2 then 3 else 4)+5", 9);
        is("if 1=1 then 1 else 1/0", 1);
        about("what is not chosen does no harm");
        is("if 1=1 then 5 else " + LEAST_INT + "/(0-1)", 5);
    }

    private static void grammar() {
        about("an expression is a sum or a condition");
        stops("if1<2then3else4", -1);
        stops("if 1<2 then 3 else 4", -1);
        stops("iff 1<2 then 3 else 4", 0);
        stops("if if 1<2 then 3 else 4=5 then 6 else 7", 3);
        stops("if 1<if 1<2 then 3 else 4 then 6 else 7", 5);
        stops("if 1<2 else 3", 7);
        stops("if 1+<2 then 3 else 4", 5);
        stops("if 1<2 then 3 else", 18);
        stops("if 1<2 then 3 else 4 else 5", 21);
        stops("if 1<2 then else 4", 12);
        stops("2*if 1<2 then 3 else 4", 2);
        stops("then", 0);
        about("a sum has products, a product factors");
        stops("1++2", 2);
        stops("1+", 2);
        stops("1 -", 3);
        stops("1*", 2);
        stops("*1", 0);
        stops("/1", 0);
        stops("1//2", 2);
        stops("1+-2", 2);
        about("factors");
        stops("week", -1);
        stops("weeks", 0);
        stops("week 1", 5);
        stops("(1)", -1);
        stops("()", 1);
        stops("(", 1);
        stops(")", 0);
        stops("(1 2)", 3);
        stops("(1,2)", 2);
        stops("flow(1)", -1);
        stops("flow", 4);
        stops("flow 1", 5);
        stops("flow()", 5);
        stops("flow(1", 6);
        stops("total(1,1)", 7);
        stops("total(1)", -1);
        stops("least(1,2)", -1);
        stops("most(1,2)", -1);
        stops("least(1)", 7);
        stops("most(1,2,3)", 8);
        stops("most(,2)", 5);
        stops("most(1,)", 7);
        stops("least 1,2", 6);
        about("words of other statements are none of a decree");
        for (String word : new String[] {"basin", "place", "reach", "right", "coins", "ask", "decree", "inflow", "else"}) {
            stops(word, 0);
            stops("1+" + word, 2);
        }
        about("a number is 0 to 9999");
        stops("9999", -1);
        stops("10000", 0);
        stops("0000", -1);
        stops("00000", 0);
        is("0099", 99);
    }

    private static void tokens() {
        about("a decree has at most 60 tokens");
        due("1 token", decree(new RiverSeniority(), 0, " 7 "), 1);
        due("59 tokens", decree(new RiverSeniority(), 0, "1" + "+1".repeat(29)), 59);
        due("60 tokens", decree(new RiverSeniority(), 0, "flow(1)" + "+1".repeat(28)), 60);
        is("flow(1)" + "+1".repeat(28), 29);
        stops("flow(1)" + "+1".repeat(28) + "   ", -1);
        stops("flow(1" + "+1".repeat(28) + ")", -1);
        about("the reading stops at the 61st token of a decree");
        stops("1" + "+1".repeat(29) + "+", 60);
        stops("1" + "+1".repeat(29) + "+1", 60);
        stops("1" + "+1".repeat(29) + "+week", 60);
        stops("flow(1)" + "+1".repeat(28) + "+1", 63);
        stops("flow(1)" + "+1".repeat(28) + " 1", 64);
        stops("flow(flow(1)" + "+1".repeat(27) + ")", 66);
        stops("flow(1)" + "+1".repeat(27) + "+flow(1)", 66);
        stops("least(1" + "+1".repeat(28) + ",if 1<2 then 3 else 4)", 64);
        stops("if 1<2 then flow(1)" + "+1".repeat(25) + " else 1", 12 + 7 + 50 + 6);
        stops("if flow(1)" + "+1".repeat(27) + "=1 then 2 else 3", 10 + 54 + 1);
        about("the tokens of each decree of a basin are counted by themselves");
        String right = "basin;place 0 0;right 0 1900 0 decree ";
        String sixty = "flow(1)" + "+1".repeat(28);
        due("60 tokens", stop(right + sixty + ";"), -1);
        due("and an ask", stop(right + sixty + " ask 0 7 1;"), -1);
        due("and coins", stop(right + sixty + " coins 9;"), -1);
        due("and another decree of 60", stop(right + sixty + " decree " + sixty + ";"), -1);
        due("the 61st", stop(right + sixty + "+1;"), right.length() + 63);
        due("the 61st of a second one", stop(right + "1 decree " + sixty + "*1;"), right.length() + 9 + 63);
    }

    private static void levels() {
        about("at most 8 levels may be open at a time");
        stops("(".repeat(8) + "1" + ")".repeat(8), -1);
        is("(".repeat(8) + "5" + ")".repeat(8) + "+1", 6);
        stops("(".repeat(9) + "1" + ")".repeat(9), 8);
        stops("flow(".repeat(8) + "1" + ")".repeat(8), -1);
        stops("flow(".repeat(9) + "1" + ")".repeat(9), 44);
        stops("total(".repeat(8) + "1" + ")".repeat(8), -1);
        stops("total(".repeat(9) + "1" + ")".repeat(9), 53);
        stops("least(1,".repeat(8) + "1" + ")".repeat(8), -1);
        is("least(3,".repeat(8) + "2" + ")".repeat(8), 2);
        stops("least(1,".repeat(9) + "1" + ")".repeat(9), 69);
        stops("most(".repeat(8) + "1" + ",1)".repeat(8), -1);
        stops("most(".repeat(9) + "1" + ",1)".repeat(9), 44);
        about("a bracket closes the level that it opened");
        stops("((((((((1))))))))*((((((((1))))))))", -1);
        stops("(((((((((1))))))))*1)", 8);
        stops("(((((((least(1,2)+(3)*flow(4))))))))", -1);
        stops("(((((((least((1),2))))))))", 13);
        stops("(((((((least(1,(2)))))))))", 15);
    }

    private static void levelsOfConditions() {
        String condition = "if 1<2 then 3 else ";
        about("each if opens a level, too");
        stops(condition.repeat(8) + "4", -1);
        stops(condition.repeat(8) + condition + "4", 8 * 19);
        stops("(".repeat(7) + condition + "4" + ")".repeat(7), -1);
        stops("(".repeat(8) + condition + "4" + ")".repeat(8), 8);
        stops("if 1<2 then ".repeat(8) + "3" + " else 4".repeat(8), -1);
        is("if 2<1 then 1 else ".repeat(7) + "if 2<1 then 1 else 4", 4);
        about("it is open in its comparison, and behind then and else");
        stops("(((((((if (1)<2 then 3 else 4)))))))", 10);
        stops("(((((((if 1<(2) then 3 else 4)))))))", 12);
        stops("(((((((if 1<2 then (3) else 4)))))))", 19);
        stops("(((((((if 1<2 then 3 else (4))))))))", 26);
        stops("(((((((if 1<2 then 3 else 4+(5))))))))", 28);
        stops("((((((if (1)<(2) then (3) else (4)))))))", -1);
        about("the end of the expression behind its else closes it");
        stops("(((((((if 1<2 then 3 else 4)))))))*((((((((5))))))))", -1);
        stops("(((((((if 1<2 then 3 else 4)+(5)))))))", -1);
        stops("least(if 1<2 then 3 else 4,(((((((5))))))))", -1);
        stops("least(if 1<2 then 3 else 4,((((((((5)))))))))", 34);
        stops("if 1<2 then if 3<4 then 5 else 6 else (((((((7)))))))", -1);
        stops("if 1<2 then if 3<4 then 5 else 6 else ((((((((7))))))))", 45);
        stops("if 1<2 then if 3<4 then 5 else ((((((6)))))) else 7", -1);
        stops("if 1<2 then if 3<4 then 5 else (((((((6))))))) else 7", 37);
    }

    private static void replacing() {
        about("a decree is in place of the one before");
        RiverSeniority x = new RiverSeniority();
        due("one token", decree(x, 0, "3"), 1);
        due("five tokens", decree(x, 0, "1*1+2"), 5);
        due("value", x.decreeValue(0, 0, 0), 3);
        due("asked", x.askedAt(0, 0, 0), 3);
        say(x, "1+");
        refused("an error", ARGUMENT, () -> x.setDecree(0));
        due("the decree stays", x.decreeValue(0, 0, 0), 3);
        due("error position", x.errorPosition(), 2);
        decree(x, 0, "6");
        due("a shorter one", x.decreeValue(0, 0, 0), 6);
        due("written", written(x).contains("decree 6;"), true);
        x.undo();
        about("if the buffer has spaces alone, or nothing, the right has no decree then");
        due("one space", decree(x, 0, " "), 0);
        due("error position", x.errorPosition(), NONE);
        refused("no decree", ELEMENT, () -> x.decreeValue(0, 0, 0));
        due("asked", x.askedAt(0, 0, 0), 7);
        x.undo();
        due("it comes back by undo", x.decreeValue(0, 0, 0), 3);
        due("nothing", x.setDecree(0), 0);
        refused("no decree", ELEMENT, () -> x.decreeValue(0, 0, 0));
        due("900 spaces", decree(x, 0, " ".repeat(900)), 0);
        about("each right has a decree of its own, and a lease has none");
        decree(x, 0, "1");
        decree(x, 1, "2");
        due("right 0", x.decreeValue(0, 0, 0), 1);
        due("right 1", x.decreeValue(0, 1, 0), 2);
        refused("right 2", ELEMENT, () -> x.decreeValue(0, 2, 0));
        about("a closed right may get a decree, also when the year is over");
        RiverSeniority over = over();
        due("setDecree", decree(over, 2, "week*2"), 3);
        due("value", over.decreeValue(0, 2, 7), 14);
        due("what was asked for stays", over.askedAt(0, 2, 1), 4);
    }
}
