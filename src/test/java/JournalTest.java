/** Section 10, the journal and the branches, sentence by sentence, and the number of changed amounts. */
public final class JournalTest extends Checks {
    private interface Use {
        Object of(RiverSeniority x);
    }

    public static void main(String[] args) {
        eachChange();
        changesThatChangeNothing();
        noChanges();
        sixChanges();
        forgottenForGood();
        redoing();
        newBranches();
        branchesApart();
        undoneBasins();
        nothingComesBack();
        changesBehindTheYear();
        belongsToNoBranch();
        differences();
        changedByChanges();
        changedByUndo();
        changedByWeeks();
        changedInBranches();
        finish();
    }

    // ---------------------------------------------------------------- what is a change

    /** An office with one change in its journal. */
    private static RiverSeniority ready() {
        RiverSeniority x = new RiverSeniority();
        x.passWeek();
        say(x, "basin;place 5 2;right 0 1900 0 ask 0 7 1;");
        return x;
    }

    private static RiverSeniority readyForDecrees() {
        RiverSeniority x = ready();
        x.clearText();
        say(x, "week-3");
        return x;
    }

    private static void eachChange() {
        change("readBasin", 1, RiverSeniority::readBasin);
        change("addPlace", 4, x -> x.addPlace(7, 3));
        change("addReach", 4, x -> x.addReach(3, 0, 5, 1));
        change("setCapacity", 12, x -> x.setCapacity(0, 1, 1));
        change("addRight", 4, x -> x.addRight(0, 1800, 2));
        change("setAsk", 6, x -> x.setAsk(0, 2, 7, 1));
        change("abandon", null, x -> x.abandon(0));
        change("fund", 34, x -> x.fund(0, 10));
        change("lease", 4, x -> x.lease(0, 3, 2, 3, 4));
        change("setInflow", 8, x -> x.setInflow(1, 0, 3, 20));
        change("gauge", 6, x -> x.gauge(0, 17));
        change("measure", null, x -> x.measure(0, 19));
        change("passWeek", 2, RiverSeniority::passWeek);
        for (int part = 0; part < Picture.BASIN_PARTS; part++) {
            about("setDecree is a change");
            undoAndRedo(readyForDecrees(), readyForDecrees(), readyForDecrees(), part, x -> x.setDecree(0), 3);
        }
    }

    private static void change(String what, Object answer, Use call) {
        about(what + " is a change");
        for (int part = 0; part < Picture.BASIN_PARTS; part++) {
            undoAndRedo(ready(), ready(), ready(), part, call, answer);
        }
    }

    private static void undoAndRedo(RiverSeniority x, RiverSeniority ahead, RiverSeniority behind, int part, Use call, Object answer) {
        Object got = call.of(x);
        due("it", got, answer == null ? got : answer);
        call.of(behind);
        due("undo", x.undo(), 1);
        String undone = Picture.of(x, part);
        alike("all as it was ahead of it", undone, Picture.of(ahead, part));
        due("redo", x.redo(), 0);
        String redone = Picture.of(x, part);
        alike("all as it was behind it", redone, Picture.of(behind, part));
        due("undo of both", x.undo() + x.undo() + x.undo(), 1 + 0 + NONE);
        due("the first of two redos", x.redo(), 1);
        alike("ahead of it again", Picture.of(x, part), undone);
    }

    private static void changesThatChangeNothing() {
        about("a call is a change even if nothing is different afterwards");
        RiverSeniority x = new RiverSeniority();
        due("setCapacity", x.setCapacity(0, 0, 12), 12);
        due("setAsk", x.setAsk(0, 0, 7, 7), 0);
        due("setDecree", x.setDecree(0), 0);
        due("setInflow", x.setInflow(0, 0, 0, 6), 6);
        due("measure", x.measure(0, 8), 8);
        say(x, FIRST);
        due("readBasin", x.readBasin(), 4);
        for (int left = 5; left >= 0; left--) {
            due("undo", x.undo(), left);
            due("nothing is different", x.changedAmounts(), 0);
        }
        due("no more", x.undo(), NONE);
        for (int left = 5; left >= 0; left--) {
            due("redo", x.redo(), left);
        }
        due("gauge", x.gauge(0, 6), 6);
        due("undo", x.undo(), 5);
    }

    private static void noChanges() {
        about("other calls are no changes: nothing more can be undone, and what can be redone stays");
        noChange("append", x -> x.append(1, 2, 3, 4, 5));
        noChange("clearText", RiverSeniority::clearText);
        noChange("errorPosition", RiverSeniority::errorPosition);
        noChange("writeBasin", RiverSeniority::writeBasin);
        noChange("createBranch", RiverSeniority::createBranch);
        noChange("switchBranch", x -> x.switchBranch(0));
        noChange("difference", x -> x.difference(0));
        noChange("markWitness", x -> x.markWitness(0, 0));
        noChange("mark", x -> x.mark(0, 0, true));
        noChange("clearMarks", RiverSeniority::clearMarks);
        noChange("sent", x -> x.sent(0, 0));
        noChange("helpedRight", x -> x.helpedRight(0, 0));
        noChange("closureCost", x -> x.closureCost(0, 0));
        noChange("harm", x -> x.harm(0, 1));
        noChange("injuredRight", x -> x.injuredRight(3, 0, 1, 0, 0));
        noChange("greatestLease", x -> x.greatestLease(3, 0, 0, 0));
        noChange("errors", RiverSeniority::errors);
        noChange("a readBasin that is refused", x -> answer(x::readBasin));
        noChange("a setDecree that is refused", x -> {
            say(x, "-");
            return answer(() -> x.setDecree(0));
        });
        noChange("a lease that is refused", x -> answer(() -> x.lease(0, 0, 20, 0, 0)));
    }

    private static void noChange(String what, Use call) {
        RiverSeniority x = new RiverSeniority();
        x.setAsk(3, 0, 0, 5);
        x.setAsk(3, 0, 0, 6);
        x.setAsk(3, 0, 0, 7);
        x.undo();
        int changed = x.changedAmounts();
        String row = amounts(x, 0, 3);
        call.of(x);
        due("changed amounts behind " + what, x.changedAmounts(), changed);
        due("amounts behind " + what, amounts(x, 0, 3), row);
        due("redo behind " + what, x.redo(), 0);
        due("undo behind " + what, x.undo(), 2);
        call.of(x);
        due("undo", x.undo(), 1);
        due("ask", x.askedAt(0, 3, 0), 5);
    }

    // ---------------------------------------------------------------- how many

    private static void sixChanges() {
        about("up to 6 of the latest changes can be undone, the latest first");
        for (int changes = 0; changes <= 9; changes++) {
            RiverSeniority x = new RiverSeniority();
            for (int i = 1; i <= changes; i++) {
                x.setAsk(3, 0, 0, 10 + i);
            }
            int left = Math.min(6, changes);
            for (int i = left - 1; i >= 0; i--) {
                due("undo", x.undo(), i);
                int ask = changes - left + i;
                due("ask behind it", x.askedAt(0, 3, 0), ask == 0 ? 3 : 10 + ask);
            }
            due("nothing to undo", x.undo(), NONE);
            due("nothing is different", x.askedAt(0, 3, 0), changes <= 6 ? 3 : 10 + changes - 6);
            for (int i = left - 1; i >= 0; i--) {
                due("redo", x.redo(), i);
                due("ask behind it", x.askedAt(0, 3, 0), 10 + changes - i);
            }
            due("nothing to redo", x.redo(), NONE);
            due("nothing is different", x.askedAt(0, 3, 0), changes == 0 ? 3 : 10 + changes);
        }
    }

    private static void forgottenForGood() {
        about("a change that is older than 6 later ones is forgotten for good");
        RiverSeniority x = new RiverSeniority();
        for (int i = 1; i <= 8; i++) {
            x.setAsk(3, 0, 0, 10 + i);
        }
        due("undo", x.undo(), 5);
        due("undo", x.undo(), 4);
        due("two are undone", x.askedAt(0, 3, 0), 16);
        x.setAsk(3, 0, 0, 0);
        for (int left = 4; left >= 0; left--) {
            due("undo", x.undo(), left);
            due("ask", x.askedAt(0, 3, 0), 12 + left);
        }
        due("no more", x.undo(), NONE);
        due("the second change stays", x.askedAt(0, 3, 0), 12);
    }

    private static void redoing() {
        about("a new change forgets what could be redone");
        RiverSeniority x = new RiverSeniority();
        x.setAsk(3, 0, 0, 11);
        x.setAsk(3, 0, 0, 12);
        x.setAsk(3, 0, 0, 13);
        x.undo();
        x.undo();
        x.setAsk(3, 0, 0, 14);
        due("nothing to redo", x.redo(), NONE);
        due("undo", x.undo(), 1);
        due("ask", x.askedAt(0, 3, 0), 11);
        due("redo", x.redo(), 0);
        due("ask", x.askedAt(0, 3, 0), 14);
        about("a change that is redone can be undone, over and over");
        for (int i = 0; i < 20; i++) {
            due("undo", x.undo(), 1);
            due("redo", x.redo(), 0);
        }
        due("undo", x.undo() + x.undo(), 1);
        due("no more", x.undo(), NONE);
        due("redo", x.redo(), 1);
        about("redoing after six undos, and a change in the middle of them");
        RiverSeniority y = new RiverSeniority();
        for (int i = 1; i <= 7; i++) {
            y.fund(1, i);
        }
        for (int i = 0; i < 6; i++) {
            y.undo();
        }
        due("balance", y.balance(1), 1);
        for (int i = 0; i < 3; i++) {
            y.redo();
        }
        due("balance", y.balance(1), 1 + 2 + 3 + 4);
        y.fund(1, 100);
        due("nothing to redo", y.redo(), NONE);
        due("undo", y.undo(), 3);
        due("balance", y.balance(1), 10);
    }

    // ---------------------------------------------------------------- branches

    private static void newBranches() {
        about("there are up to 3 branches, numbered from 0; branch 0 is there at first");
        RiverSeniority x = new RiverSeniority();
        due("switchBranch(0)", x.switchBranch(0), 0);
        refused("branch 1", INDEX, () -> x.switchBranch(1));
        x.setAsk(3, 0, 0, 9);
        x.setAsk(3, 0, 0, 8);
        x.undo();
        due("createBranch", x.createBranch(), 1);
        due("createBranch", x.createBranch(), 2);
        refused("a 4th one", STATE, () -> x.createBranch());
        refused("branch 3", INDEX, () -> x.switchBranch(3));
        about("it does not become the current branch");
        due("the journal of branch 0", x.redo(), 0);
        due("back", x.undo(), 1);
        about("a new branch is a copy of the current branch, without changes that could be undone or redone");
        due("switchBranch", x.switchBranch(2), 0);
        due("the copy", x.askedAt(0, 3, 0), 9);
        due("undo", x.undo(), NONE);
        due("redo", x.redo(), NONE);
        due("switchBranch", x.switchBranch(1), 2);
        due("the other copy", x.askedAt(0, 3, 0), 9);
        due("undo", x.undo(), NONE);
        due("redo", x.redo(), NONE);
        about("a copy of the current branch, not of branch 0");
        RiverSeniority y = new RiverSeniority();
        y.createBranch();
        y.switchBranch(1);
        y.passWeek();
        y.abandon(0);
        y.createBranch();
        y.switchBranch(2);
        due("today", y.today(), 1);
        due("abandoned", y.askedAt(0, 0, 1), 0);
        due("what was got", y.amountAt(0, 0, 0), 6);
        due("what was sent", y.sent(2, 0), 6);
    }

    private static void branchesApart() {
        about("all calls are about the current branch");
        RiverSeniority x = new RiverSeniority();
        x.createBranch();
        x.createBranch();
        x.addPlace(1, 1);
        x.switchBranch(1);
        due("places of branch 1", x.placeCount(), 4);
        x.passWeek();
        x.passWeek();
        x.switchBranch(2);
        due("today in branch 2", x.today(), 0);
        for (int i = 1; i <= 7; i++) {
            x.fund(0, i);
        }
        x.switchBranch(0);
        due("balance in branch 0", x.balance(0), 30);
        due("places of branch 0", x.placeCount(), 5);
        due("undo in branch 0", x.undo(), 0);
        x.switchBranch(1);
        due("undo in branch 1", x.undo(), 1);
        due("today", x.today(), 1);
        x.switchBranch(2);
        due("redo in branch 2", x.redo(), NONE);
        due("undo in branch 2", x.undo(), 5);
        x.switchBranch(0);
        due("redo in branch 0", x.redo(), 0);
        x.switchBranch(1);
        due("redo in branch 1", x.redo(), 0);
    }

    private static void undoneBasins() {
        about("undoing a readBasin brings all of the branch back, with what was done ahead of it");
        RiverSeniority x = new RiverSeniority();
        x.lease(3, 0, 1, 5, 5);
        x.passWeek();
        x.abandon(1);
        int length = x.writeBasin();
        say(x, "basin;");
        due("readBasin", x.readBasin(), 0);
        due("undo", x.undo(), 3);
        due("length of the text", x.writeBasin(), length);
        due("today", x.today(), 1);
        due("lessor", x.lessorOf(4), 3);
        due("abandoned", x.askedAt(0, 1, 3), 0);
        due("what was sent", x.sent(2, 0), 6);
        due("what was stored", x.storageAt(0, 0), 8);
        due("what was asked for", x.askedAt(0, 0, 0), 7);
        due("undo", x.undo(), 2);
        due("undo", x.undo(), 1);
        due("undo", x.undo(), 0);
        due("text", written(x), FIRST);
        due("redo", x.redo() + x.redo() + x.redo() + x.redo(), 3 + 2 + 1);
        due("text", written(x), "basin;");
        about("a refused readBasin leaves what was read ahead of it");
        say(x, "basin;place 1 1");
        refused("readBasin", ARGUMENT, () -> x.readBasin());
        due("placeCount", x.placeCount(), 0);
        due("undo", x.undo(), 3);
    }

    /** A basin with a past, and all rows of places, reaches and rights in use. */
    private static RiverSeniority past() {
        RiverSeniority x = office("basin;" + "place 60 30;".repeat(6) + "reach 1 2 9 0;" + "reach 2 1 9 1;reach 3 0 9 2;".repeat(4)
            + "right 0 1900 9 coins 50 ask 0 7 1 decree 20;right 2 1890 0 ask 0 7 20;".repeat(4)
            + "inflow 0 2 40 40 40 40 40 40 40 40;inflow 1 5 9;inflow 0 1 0 0 0 0 0 0 0 9;inflow 0 3 40;inflow 0 4 0 0 0 0 0 0 0 40;");
        x.lease(1, 2, 5, 0, 7);
        x.abandon(6);
        return passed(x, 3);
    }

    private static void nothingComesBack() {
        about("places, reaches, rights and inflows become those of the text: nothing of what was there ahead of it comes back");
        String text = "basin;place 60 0;place 60 5;place 0 0;right 2 1900 0 ask 0 7 1;inflow 0 0 40;";
        for (int part = 0; part < Picture.BASIN_PARTS; part++) {
            RiverSeniority x = past();
            due("it has sent", x.sent(0, 0) > 0, true);
            due("it has lost", x.runOff(3, 0) > 0, true);
            x.harm(0, 1);
            x.helpedRight(0, 5);
            say(x, text);
            x.readBasin();
            RiverSeniority y = office(text);
            alike("what is read", Picture.of(x, part), Picture.of(y, part));
            for (RiverSeniority one : new RiverSeniority[] {x, y}) {
                passed(one, 4);
                one.addPlace(50, 0);
                one.addReach(0, 2, 5, 0);
                one.addRight(2, 1950, 1);
                one.addRight(0, 1900, 1);
                one.setAsk(2, 5, 6, 1);
            }
            alike("what is added", Picture.of(x, part), Picture.of(y, part));
        }
    }

    private static void changesBehindTheYear() {
        about("a change when the year is over leaves what was given, sent and stored in all weeks");
        RiverSeniority x = passed(past(), 4);
        String planned = lastWeek(x, 0);
        x.gauge(4, 30);
        x.gauge(1, 3);
        String due = lastWeek(x, 0);
        due("the last week is an other one than it was planned", due.equals(planned), false);
        x.passWeek();
        due("the year is over", lastWeek(x, 0), due);
        due("in every scenario", lastWeek(x, 2), due);
        x.fund(1, 1);
        due("behind a change", lastWeek(x, 2), due);
        x.fund(1, 1);
        due("behind another one", lastWeek(x, 1), due);
        x.undo();
        due("behind an undo", lastWeek(x, 0), due);
        x.createBranch();
        x.switchBranch(1);
        due("in a new branch", lastWeek(x, 2), due);
    }

    private static String lastWeek(RiverSeniority x, int scenario) {
        StringBuilder seen = new StringBuilder();
        int rights = x.rightCount();
        for (int reach = 0; reach < 9; reach++) {
            seen.append(x.sent(reach, 7)).append(' ');
        }
        for (int place = 0; place < 6; place++) {
            seen.append(x.runOff(place, 7)).append(' ').append(x.storageAt(place, 8)).append(' ');
        }
        for (int right = 0; right < rights; right++) {
            seen.append(x.amountAt(scenario, right, 7)).append(' ').append(x.askedAt(scenario, right, 7)).append(' ');
        }
        return seen.toString();
    }

    private static void belongsToNoBranch() {
        about("the buffer, the error position, the written text and the marks belong to no branch");
        RiverSeniority x = new RiverSeniority();
        x.createBranch();
        say(x, "1 1");
        refused("setDecree", ARGUMENT, () -> x.setDecree(0));
        x.passWeek();
        x.mark(2, 2, true);
        int length = x.writeBasin();
        say(x, "week");
        x.undo();
        due("the buffer behind an undo", x.append(0, 0, 0, 0, 0), 4);
        x.switchBranch(1);
        due("the buffer in another branch", x.setDecree(0), 1);
        due("the error position", x.errorPosition(), NONE);
        x.switchBranch(0);
        due("the error position in branch 0", x.errorPosition(), NONE);
        due("the mark", x.isMarked(2, 2), true);
        due("the written text", x.writtenAt(length - 1), (int) ';');
        refused("no decree in branch 0", ELEMENT, () -> x.decreeValue(0, 0, 0));
    }

    private static void differences() {
        about("difference: pairs of a right and a week from 0 to 7 whose amounts by scenario 0 are unlike");
        RiverSeniority x = office("basin;place 60 60;right 0 1900 0 ask 0 7 1;right 0 1910 0 ask 0 7 2;");
        x.createBranch();
        due("with itself", x.difference(0), 0);
        due("with its copy", x.difference(1), 0);
        x.setInflow(1, 0, 0, 40);
        due("other scenarios do not count", x.difference(1), 0);
        x.setAsk(0, 7, 7, 2);
        due("the last week", x.difference(1), 1);
        x.setAsk(0, 0, 0, 0);
        due("the first week", x.difference(1), 2);
        x.setAsk(1, 0, 7, 0);
        due("a whole right", x.difference(1), 10);
        about("the amount of a right that is not there is 0");
        x.addRight(0, 1950, 0);
        due("it gets nothing", x.difference(1), 10);
        x.setAsk(2, 6, 7, 20);
        due("it gets something", x.difference(1), 12);
        x.switchBranch(1);
        due("the other way round", x.difference(0), 12);
        about("weeks that are over count, too");
        x.passWeek();
        due("what was got is what was planned", x.difference(0), 12);
        say(x, "basin;");
        x.readBasin();
        due("without a right: 7 amounts of right 0, none of 1, two of 2", x.difference(0), 7 + 2);
        x.switchBranch(0);
        due("the other way round", x.difference(1), 7 + 2);
    }

    // ---------------------------------------------------------------- changed amounts

    private static void changedByChanges() {
        about("0 if there was no change, undo or redo");
        RiverSeniority x = office("basin;place 60 60;right 0 1900 0 ask 0 7 1;");
        RiverSeniority fresh = new RiverSeniority();
        due("at first", fresh.changedAmounts(), 0);
        due("undo", fresh.undo(), NONE);
        due("still", fresh.changedAmounts(), 0);
        about("how many amounts by the plan of scenario 0 are other ones behind it than ahead of it");
        x.setAsk(0, 0, 7, 2);
        due("all eight", x.changedAmounts(), 8);
        x.setAsk(0, 7, 7, 1);
        due("one", x.changedAmounts(), 1);
        x.setInflow(1, 0, 0, 40);
        due("other scenarios do not count", x.changedAmounts(), 0);
        x.measure(0, 3);
        due("less water: week 1 gets 1, the weeks 2 to 7 nothing", x.changedAmounts(), 7);
        x.fund(0, 1);
        due("fund", x.changedAmounts(), 0);
        about("an amount of a right whose number was not there counts as 0");
        x.addRight(0, 1800, 0);
        due("a right that asks for nothing", x.changedAmounts(), 0);
        x.undo();
        x.undo();
        x.undo();
        due("water again", x.amountAt(0, 0, 7), 1);
        RiverSeniority y = office("basin;place 60 60;right 0 1900 0 ask 0 7 5;");
        y.lease(0, 0, 2, 0, 2);
        due("three amounts less, and three new ones", y.changedAmounts(), 6);
        y.undo();
        due("what is not there behind it is not compared", y.changedAmounts(), 3);
        y.redo();
        due("redo", y.changedAmounts(), 6);
        about("readBasin: the rights that are there behind it are compared");
        say(y, "basin;place 60 60;right 0 1900 0 ask 0 7 3;");
        y.readBasin();
        due("three of 3 in the weeks 0 to 2, five of 5", y.changedAmounts(), 5);
        say(y, "basin;");
        y.readBasin();
        due("none is there", y.changedAmounts(), 0);
        y.undo();
        due("all eight come", y.changedAmounts(), 8);
    }

    private static void changedByUndo() {
        about("it is told for the latest change, undo or redo");
        RiverSeniority x = office("basin;place 60 60;right 0 1900 0 ask 0 7 1;");
        x.setAsk(0, 0, 4, 2);
        x.setAsk(0, 0, 1, 1);
        due("setAsk", x.changedAmounts(), 2);
        due("undo", x.undo(), 2);
        due("undo", x.changedAmounts(), 2);
        x.undo();
        due("undo", x.changedAmounts(), 5);
        x.redo();
        due("redo", x.changedAmounts(), 5);
        x.redo();
        due("redo", x.changedAmounts(), 2);
        about("an undo or redo without anything to undo or redo does not count, nor does a refused call");
        due("redo", x.redo(), NONE);
        due("still", x.changedAmounts(), 2);
        refused("setAsk", ARGUMENT, () -> x.setAsk(0, 0, 0, 21));
        due("still", x.changedAmounts(), 2);
        x.undo();
        x.undo();
        x.undo();
        int last = x.changedAmounts();
        due("undo", x.undo(), NONE);
        due("still", x.changedAmounts(), last);
    }

    private static void changedByWeeks() {
        about("the weeks that are not over behind it are compared");
        RiverSeniority x = office("basin;place 60 60;right 0 1900 1 coins 2 ask 0 7 2;");
        x.passWeek();
        due("passWeek", x.changedAmounts(), 0);
        x.passWeek();
        due("closed by the passing: the weeks 2 to 7", x.changedAmounts(), 6);
        about("ahead of it an amount of a week that was over then is what was got in it");
        x.undo();
        due("undo: the weeks 2 to 7 are other ones, week 1 is the same", x.changedAmounts(), 6);
        x.undo();
        due("undo", x.changedAmounts(), 0);
        x.redo();
        x.redo();
        say(x, "basin;place 60 60;right 0 1900 1 ask 0 7 3;");
        x.readBasin();
        due("the weeks that were over count, too", x.changedAmounts(), 8);
        x.undo();
        due("those that are over behind it do not", x.changedAmounts(), 6);
        RiverSeniority y = passed(office("basin;place 60 60;right 0 1900 0 ask 0 7 1;"), 7);
        y.setAsk(0, 7, 7, 0);
        due("the last week", y.changedAmounts(), 1);
        y.passWeek();
        due("the year is over", y.changedAmounts(), 0);
        y.abandon(0);
        due("nothing is left to compare", y.changedAmounts(), 0);
        y.undo();
        y.undo();
        due("undo", y.changedAmounts(), 0);
        y.undo();
        due("the last week is as it was", y.changedAmounts(), 1);
    }

    private static void changedInBranches() {
        about("of the object, in whichever branch it was");
        RiverSeniority x = office("basin;place 60 60;right 0 1900 0 ask 0 7 1;");
        x.createBranch();
        x.setAsk(0, 0, 2, 2);
        due("in branch 0", x.changedAmounts(), 3);
        x.switchBranch(1);
        due("told in branch 1", x.changedAmounts(), 3);
        due("nothing to undo", x.undo(), NONE);
        due("still", x.changedAmounts(), 3);
        x.setAsk(0, 0, 0, 0);
        due("in branch 1", x.changedAmounts(), 1);
        x.switchBranch(0);
        due("told in branch 0", x.changedAmounts(), 1);
        x.undo();
        due("undo in branch 0", x.changedAmounts(), 3);
    }
}
