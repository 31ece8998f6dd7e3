import java.lang.reflect.InvocationTargetException;
import java.lang.reflect.Method;
import java.util.ArrayList;
import java.util.Arrays;
import java.util.HashMap;
import java.util.List;
import java.util.Map;

/**
 * Long runs of calls, made up from a fixed seed, on the program and on the oracle: every answer and every
 * exception's very class must be the same. An argument, if there is one, is the number of runs; a second
 * one is the number of the first run.
 */
public final class OracleTest {
    private static final Map<String, Method> OF_PROGRAM = methods(RiverSeniority.class);
    private static final Map<String, Method> OF_ORACLE = methods(Oracle.class);
    private static final int CALLS = 512;

    private final Dice dice;
    private final RiverSeniority program = new RiverSeniority();
    private final Oracle oracle = new Oracle();
    private final List<String> calls = new ArrayList<>();
    private final int run;

    private OracleTest(int run) {
        this.run = run;
        this.dice = new Dice(run);
    }

    public static void main(String[] args) {
        int runs = args.length > 0 ? Integer.parseInt(args[0]) : 150;
        int first = args.length > 1 ? Integer.parseInt(args[1]) : 1;
        for (int run = first; run < first + runs; run++) {
            new OracleTest(run).play();
        }
        System.out.println(runs + " runs of " + CALLS + " calls are as the oracle has them");
    }

    private static Map<String, Method> methods(Class<?> type) {
        Map<String, Method> found = new HashMap<>();
        for (Method method : type.getDeclaredMethods()) {
            if (java.lang.reflect.Modifier.isPublic(method.getModifiers())
                    && !java.lang.reflect.Modifier.isStatic(method.getModifiers())) {
                found.put(method.getName(), method);
            }
        }
        return found;
    }

    /** Makes a call on both, and compares. */
    private Object both(String name, Object... args) {
        calls.add(name + Arrays.toString(args));
        Object got = answer(OF_PROGRAM, program, name, args);
        Object due = answer(OF_ORACLE, oracle, name, args);
        if (!got.equals(due)) {
            for (String call : calls) {
                System.out.println(call);
            }
            System.out.println("run " + run + ": the last call answered " + got + ", due is " + due);
            System.exit(1);
        }
        return got;
    }

    private static Object answer(Map<String, Method> methods, Object office, String name, Object[] args) {
        try {
            return methods.get(name).invoke(office, args);
        } catch (InvocationTargetException e) {
            return e.getCause().getClass().getName();
        } catch (IllegalAccessException e) {
            throw new IllegalStateException(e);
        }
    }

    private void play() {
        if (!dice.chance(5)) {
            say(basinText());
            both("readBasin");
        }
        while (calls.size() < CALLS - 60) {
            if (dice.chance(2)) {
                change();
            } else if (dice.chance(30)) {
                writeAndCompare();
            } else {
                ask();
            }
        }
        lookAtMuch();
    }

    private void say(String text) {
        StringBuilder padded = new StringBuilder(text);
        while (padded.length() % 20 != 0) {
            padded.append((char) 0);
        }
        for (int i = 0; i < padded.length(); i += 20) {
            Object[] words = new Object[5];
            for (int w = 0; w < 5; w++) {
                int word = 0;
                for (int b = 0; b < 4; b++) {
                    word = word << 8 | padded.charAt(i + 4 * w + b);
                }
                words[w] = word;
            }
            both("append", words);
        }
    }

    private void writeAndCompare() {
        calls.add("writeBasin, writtenAt of all");
        int length = program.writeBasin();
        StringBuilder text = new StringBuilder();
        for (int i = 0; i < length; i++) {
            text.append((char) program.writtenAt(i));
        }
        oracle.writeBasin();
        if (!text.toString().equals(oracle.written())) {
            System.out.println("run " + run + ": wrote " + text + ", due is " + oracle.written());
            System.exit(1);
        }
        both("writtenAt", length);
        both("writtenAt", -1);
    }

    // ---------------------------------------------------------------- arguments

    private int place() {
        return dice.number(program.placeCount(), 40);
    }

    private int reach() {
        return dice.number(program.reachCount(), 40);
    }

    private int right() {
        return dice.number(program.rightCount(), 40);
    }

    private int week() {
        int today = Math.min(7, program.today());
        return dice.chance(30) ? dice.range(-1, 9) : dice.chance(8) ? dice.range(0, 7) : dice.range(today, 7);
    }

    private int within(int low, int high) {
        return dice.chance(30) ? dice.chance(2) ? low - 1 : high + 1 : dice.range(low, high);
    }

    // ---------------------------------------------------------------- calls

    private void change() {
        int first = week();
        int last = dice.chance(20) ? week() : dice.range(first, 7 < first ? first : 7);
        switch (dice.range(0, 22)) {
            case 0:
                both("addPlace", within(0, dice.chance(2) ? 60 : 10), dice.chance(2) ? 0 : within(0, 20));
                break;
            case 1:
            case 2:
                both("addReach", place(), place(), within(0, dice.chance(2) ? 50 : 8), within(0, 2));
                break;
            case 3:
                both("setCapacity", reach(), week(), dice.chance(4) ? 0 : within(0, 50));
                break;
            case 4:
            case 5:
                both("addRight", place(), dice.chance(2) ? within(1800, 2099) : dice.range(1850, 1852), within(0, 9));
                break;
            case 6:
            case 7:
            case 8:
                both("setAsk", right(), first, last, within(0, dice.chance(3) ? 20 : 6));
                break;
            case 9:
            case 10:
                say(dice.chance(12) ? "  " : spoiled(decree(new Room())));
                both("setDecree", right());
                both("errorPosition");
                break;
            case 11:
                if (dice.chance(3)) {
                    both("abandon", right());
                }
                break;
            case 12:
                both("fund", right(), within(1, dice.chance(2) ? 1000 : 20));
                break;
            case 13:
            case 14:
                both("lease", right(), place(), dice.chance(2) ? dice.range(1, 3) : within(1, 20), first, last);
                break;
            case 15:
                both("setInflow", dice.number(3, 40), place(), week(), within(0, dice.chance(2) ? 40 : 6));
                break;
            case 16:
                both("gauge", place(), within(0, dice.chance(2) ? 40 : 6));
                break;
            case 17:
                both("measure", place(), within(0, dice.chance(2) ? 60 : 6));
                break;
            case 18:
                series("passWeek", dice.chance(8) ? dice.range(1, 9) : 1);
                break;
            case 19:
                series("undo", dice.range(1, dice.chance(3) ? 8 : 2));
                break;
            case 20:
                series("redo", dice.range(1, dice.chance(3) ? 8 : 2));
                break;
            case 21:
                branching();
                break;
            default:
                reading();
                break;
        }
        both("changedAmounts");
    }

    private void series(String name, int count) {
        for (int i = 0; i < count && calls.size() < CALLS - 100; i++) {
            both(name);
            both("changedAmounts");
        }
    }

    private void branching() {
        if (dice.chance(3)) {
            both("createBranch");
        } else {
            both("switchBranch", dice.number(3, 8));
        }
    }

    private void reading() {
        if (calls.size() > CALLS - 150) {
            return;
        }
        if (dice.chance(4)) {
            both("clearText");
        }
        if (dice.chance(3)) {
            say(spoiled(basinText()));
            both("readBasin");
        }
        both("errorPosition");
    }

    private void ask() {
        int first = week();
        int last = dice.chance(20) ? week() : dice.range(first, 7 < first ? first : 7);
        int scenario = dice.number(3, 40);
        switch (dice.range(0, 32)) {
            case 0: both("today"); break;
            case 1: both(dice.chance(2) ? "placeCount" : "reachCount"); break;
            case 2: both("rightCount"); break;
            case 3: both("capacityAt", reach(), week()); break;
            case 4: both("inflowAt", scenario, place(), week()); break;
            case 5: both("askedAt", scenario, right(), dice.range(-1, 8)); break;
            case 6: both("decreeValue", scenario, right(), dice.range(-1, 8)); break;
            case 7: both("rankOf", right()); break;
            case 8: both("lessorOf", right()); break;
            case 9: both("balance", right()); break;
            case 10:
            case 11: both("amountAt", scenario, right(), dice.range(-1, 8)); break;
            case 12: both("total", right()); break;
            case 13: both("shortage", right(), dice.range(-1, 8)); break;
            case 14:
            case 15: both("sent", reach(), dice.range(-1, 8)); break;
            case 16: both("storageAt", place(), dice.range(-1, 9)); break;
            case 17: both("runOff", place(), dice.range(-1, 8)); break;
            case 18: both("witnessSize", right(), week()); break;
            case 19: both("markWitness", right(), week()); break;
            case 20: both("mark", place(), dice.range(-1, 8), !dice.chance(4)); break;
            case 21: both(dice.chance(6) ? "clearMarks" : "waterIntoMarks"); break;
            case 22: both("isMarked", place(), dice.range(-1, 8)); break;
            case 23: both("waterIntoMarks"); break;
            case 24: both("takenInMarks", right(), week()); break;
            case 25: both("helpedRight", reach(), week()); break;
            case 26: both("closureCost", reach(), week()); break;
            case 27: both("harm", right(), right()); break;
            case 28: both("injuredRight", right(), place(), dice.chance(2) ? 1 : within(1, 20), first, last); break;
            case 29: both("greatestLease", right(), place(), first, last); break;
            case 30: both("difference", dice.number(3, 8)); break;
            case 31: both(dice.chance(2) ? "meanShortage" : "servedShare"); break;
            default: both("errors"); break;
        }
    }

    /** The calls that are left go to the plan, the way and the witnesses of one last state. */
    private void lookAtMuch() {
        both("errors");
        for (int i = 0; calls.size() < CALLS; i++) {
            int week = i % 8;
            int number = i / 8;
            if (number < program.rightCount()) {
                both("markWitness", number, week);
            } else {
                both("sent", dice.number(program.reachCount(), 100), week);
            }
        }
    }

    // ---------------------------------------------------------------- texts

    /** What is left of the tokens and the levels of a decree. */
    private static final class Room {
        int tokens = 40;
        int levels = 5;
    }

    private String basinText() {
        StringBuilder text = new StringBuilder("basin;");
        boolean small = dice.chance(2);
        // Much water behind narrow reaches: there one unit more or less is felt.
        int widest = dice.chance(3) ? 3 : dice.chance(2) ? 50 : 6;
        int places = small ? dice.range(1, 2) : dice.range(0, 6);
        for (int i = 0; i < places; i++) {
            int capacity = dice.chance(2) ? 0 : dice.range(0, dice.chance(2) ? 60 : 8);
            text.append("place ").append(capacity).append(' ').append(dice.range(0, capacity)).append(';');
        }
        int reaches = places < 2 ? 0 : small ? dice.range(1, 3) : dice.range(0, 9);
        for (int i = 0; i < reaches; i++) {
            int from = dice.range(0, places - 1);
            int to = (from + dice.range(1, places - 1)) % places;
            text.append("reach ").append(from).append(' ').append(to).append(' ').append(dice.range(0, widest));
            text.append(' ').append(dice.range(0, 2));
            if (dice.chance(3)) {
                text.append(" week ").append(dice.range(0, 7)).append(' ').append(dice.range(0, 50));
            }
            text.append(';');
        }
        for (int i = 0; places > 0 && i < places * 3 && text.length() < 500; i++) {
            int place = widest == 3 && dice.chance(2) ? 0 : dice.range(0, places - 1);
            text.append("inflow ").append(dice.range(0, 2)).append(' ').append(place);
            for (int week = dice.range(0, 7); week >= 0; week--) {
                text.append(' ').append(dice.range(0, dice.chance(3) ? 40 : 7));
            }
            text.append(';');
        }
        int rights = places == 0 ? 0 : dice.range(1, small ? 3 : 10);
        for (int i = 0; i < rights && text.length() < 800; i++) {
            text.append(rightText(places));
        }
        return text.length() > 900 ? text.substring(0, 900) : text.toString();
    }

    private String rightText(int places) {
        StringBuilder text = new StringBuilder("right ").append(dice.range(0, places - 1));
        text.append(' ').append(dice.chance(2) ? 1850 : dice.range(1800, 2099)).append(' ').append(dice.range(0, 9));
        if (dice.chance(2)) {
            text.append(" coins ").append(dice.range(0, dice.chance(2) ? 1000 : 60));
        }
        for (int asks = dice.range(0, 2); asks >= 0; asks--) {
            int first = dice.range(0, 7);
            text.append(" ask ").append(first).append(' ').append(dice.range(first, 7));
            text.append(' ').append(dice.range(0, dice.chance(2) ? 20 : 6));
        }
        if (dice.chance(5)) {
            text.append(" decree ").append(decree(new Room()));
        }
        return text.append(';').toString();
    }

    private String decree(Room room) {
        if (dice.chance(100)) {
            return "week" + "+7".repeat(dice.range(28, 31)) + (dice.chance(2) ? ")" : "");
        }
        if (dice.chance(60)) {
            int deep = dice.range(7, 9);
            return dice.chance(2) ? "(".repeat(deep) + "5" + ")".repeat(deep)
                : "if week < 3 then week else ".repeat(deep - 2) + "least((1),2)";
        }
        return expression(room);
    }

    private String expression(Room room) {
        room.tokens -= 6;
        if (room.tokens < 0 || room.levels <= 0 || !dice.chance(4)) {
            return sum(room);
        }
        room.levels--;
        String comparison = dice.chance(2) ? "<" : dice.chance(2) ? ">" : "=";
        String text = "if " + sum(room) + comparison + sum(room) + " then " + expression(room) + " else " + expression(room);
        room.levels++;
        return text;
    }

    private String sum(Room room) {
        String text = factor(room);
        while (room.tokens > 0 && dice.chance(2)) {
            text += "+-*/-*".charAt(dice.range(0, 5)) + (dice.chance(2) ? " " : "") + factor(room);
        }
        return text;
    }

    private String factor(Room room) {
        room.tokens -= 3;
        if (room.tokens < 0 || room.levels <= 0 || dice.chance(2)) {
            return dice.chance(3) ? "week" : "" + dice.range(0, dice.chance(3) ? 9999 : 6);
        }
        room.levels--;
        String text;
        if (dice.chance(2)) {
            text = (dice.chance(2) ? "flow(" : "total (") + (dice.chance(2) ? "0" : expression(room)) + ")";
        } else if (dice.chance(2)) {
            text = (dice.chance(2) ? "least" : "most") + "(" + expression(room) + "," + expression(room) + ")";
        } else {
            text = "(" + expression(room) + ")";
        }
        room.levels++;
        return text;
    }

    private String spoiled(String text) {
        if (text.length() < 2 || !dice.chance(4)) {
            return text;
        }
        int at = dice.range(0, text.length() - 1);
        String[] bits = {" ", ";", "(", "week ", "9", "00000", "\u00e9", "A", "place 1 1;", "reach 0 1 1 0;", "if ", " 61 ", "coins"};
        String bit = dice.chance(4) ? "" : bits[dice.range(0, bits.length - 1)];
        String rest = text.substring(dice.chance(2) ? at : at + 1);
        String made = text.substring(0, at) + bit + (dice.chance(8) ? "" : rest);
        return made.length() > 900 ? made.substring(0, 900) : made;
    }

    /** Numbers from a fixed seed. */
    private static final class Dice {
        private long state;

        Dice(int seed) {
            state = seed * 0x9E3779B97F4A7C15L + 12345;
        }

        int range(int low, int high) {
            state = state * 6364136223846793005L + 1442695040888963407L;
            return low + (int) ((state >>> 33) % (high - low + 1));
        }

        boolean chance(int of) {
            return range(1, of) == 1;
        }

        /** A number below a count; now and then one that is not there. */
        int number(int count, int of) {
            if (count == 0 || chance(of)) {
                int[] out = {-1, count, Integer.MAX_VALUE, Integer.MIN_VALUE, count + 1};
                return out[range(0, 4)];
            }
            return range(0, count - 1);
        }
    }
}
