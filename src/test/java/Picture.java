/**
 * What an office answers to many calls, as a text, for comparing two offices. It comes in parts, because an
 * object is used for at most 512 calls: each part is taken of an object of its own, made in the same way.
 */
final class Picture {
    /** The parts that show the basin of the current branch alone, and leave it as it is. */
    static final int BASIN_PARTS = 4;
    static final int PARTS = 8;

    private final StringBuilder seen = new StringBuilder();
    private final RiverSeniority x;
    private int places;
    private int reaches;
    private int rights;

    private Picture(RiverSeniority x) {
        this.x = x;
        count();
    }

    private void count() {
        places = x.placeCount();
        reaches = x.reachCount();
        rights = x.rightCount();
    }

    static String of(RiverSeniority x, int part) {
        Picture picture = new Picture(x);
        switch (part) {
            case 0 -> picture.whatThereIs();
            case 1 -> picture.asks();
            case 2 -> picture.amounts();
            case 3 -> picture.way();
            case 4 -> picture.beside();
            case 5 -> picture.journal();
            case 6 -> picture.branches();
            default -> picture.buffer();
        }
        return picture.seen.toString();
    }

    private void note(String what, Object value) {
        seen.append(what).append(' ').append(value).append('\n');
    }

    private void note(String what, Checks.Call call) {
        note(what, Checks.answer(call));
    }

    private void counts() {
        count();
        note("today", x.today());
        note("placeCount", places);
        note("reachCount", reaches);
        note("rightCount", rights);
    }

    private void whatThereIs() {
        counts();
        for (int right = 0; right < rights; right++) {
            int r = right;
            note("rankOf " + r, () -> x.rankOf(r));
            note("lessorOf " + r, () -> x.lessorOf(r));
            note("balance " + r, () -> x.balance(r));
            note("decreeValue " + r, () -> x.decreeValue(0, r, 7));
        }
        for (int reach = 0; reach < reaches; reach++) {
            for (int week = 0; week < 8; week++) {
                note("capacityAt " + reach + " " + week, x.capacityAt(reach, week));
            }
        }
        for (int place = 0; place < places; place++) {
            for (int week = 0; week < 8; week++) {
                note("inflowAt " + place + " " + week, x.inflowAt(0, place, week) + " " + x.inflowAt(1, place, week)
                    + " " + x.inflowAt(2, place, week));
            }
        }
    }

    private void asks() {
        for (int right = 0; right < rights; right++) {
            for (int scenario = 0; scenario < 3; scenario++) {
                note("askedAt " + scenario + " " + right, Checks.asks(x, scenario, right));
            }
        }
    }

    private void amounts() {
        for (int right = 0; right < rights; right++) {
            for (int scenario = 0; scenario < 3; scenario++) {
                note("amountAt " + scenario + " " + right, Checks.amounts(x, scenario, right));
            }
        }
    }

    private void way() {
        for (int week = 0; week < 8; week++) {
            for (int reach = 0; reach < reaches; reach++) {
                note("sent " + reach + " " + week, x.sent(reach, week));
            }
            for (int place = 0; place < places; place++) {
                note("storageAt " + place + " " + week, x.storageAt(place, week));
                note("runOff " + place + " " + week, x.runOff(place, week));
            }
        }
        for (int place = 0; place < places; place++) {
            note("storageAt the end of " + place, x.storageAt(place, 8));
        }
        note("meanShortage", x.meanShortage());
        note("servedShare", x.servedShare());
        note("errors", x.errors());
    }

    /** What belongs to no branch. */
    private void beside() {
        note("errorPosition", x.errorPosition());
        note("changedAmounts", x.changedAmounts());
        note("waterIntoMarks", x.waterIntoMarks());
        for (int place = 0; place < places; place++) {
            for (int week = 0; week < 8; week++) {
                note("isMarked " + place + " " + week, x.isMarked(place, week));
            }
        }
        note("clearMarks", x.clearMarks());
        Object one = 0;
        for (int index = 0; index < 250 && one instanceof Integer; index++) {
            int i = index;
            one = Checks.answer(() -> x.writtenAt(i));
            note("writtenAt " + i, one);
        }
        note("clearText", x.clearText());
    }

    private void state() {
        counts();
        note("changedAmounts", x.changedAmounts());
        note("writeBasin", x.writeBasin());
        for (int right = 0; right < rights; right++) {
            note("total " + right, x.total(right));
            note("balance " + right, x.balance(right));
        }
    }

    private void journal() {
        boolean more = true;
        for (int i = 0; i < 7 && more; i++) {
            int left = x.undo();
            note("undo", left);
            state();
            more = left != Checks.NONE;
        }
        more = true;
        for (int i = 0; i < 13 && more; i++) {
            int left = x.redo();
            note("redo", left);
            more = left != Checks.NONE;
        }
        state();
    }

    private void branches() {
        for (int branch = 0; branch < 4; branch++) {
            int b = branch;
            note("difference " + b, () -> x.difference(b));
            note("switchBranch " + b, () -> x.switchBranch(b));
            state();
            note("undo", x.undo());
            note("redo", x.redo());
        }
        note("createBranch", () -> x.createBranch());
    }

    /** What the buffer holds is seen by reading it. */
    private void buffer() {
        note("readBasin", () -> x.readBasin());
        note("errorPosition", x.errorPosition());
        int length = x.writeBasin();
        note("writeBasin", length);
        note("its first bytes", Checks.lastWritten(x, Math.min(length, 250)));
    }
}
