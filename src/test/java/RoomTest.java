import java.lang.management.ManagementFactory;
import java.lang.reflect.Array;
import java.lang.reflect.Field;
import java.lang.reflect.Modifier;
import java.util.ArrayDeque;
import java.util.Collections;
import java.util.Deque;
import java.util.IdentityHashMap;
import java.util.Set;

/**
 * All calls of a run live in one room of some 600,000 objects and 7.3 million elements, so an office makes
 * its rows with itself, and no call makes anything but the exceptions that it throws.
 */
public final class RoomTest extends Checks {
    private static final String LONG_DECREE = "most(least(if flow(0)<week then total(1)-3 else 7/2,0009),week*2+0)";

    private RoomTest() {
    }

    public static void main(String[] args) throws IllegalAccessException {
        whatAnOfficeHas();
        whatCallsMake();
        finish();
    }

    private static void whatAnOfficeHas() throws IllegalAccessException {
        about("room");
        Set<Object> seen = Collections.newSetFromMap(new IdentityHashMap<>());
        Deque<Object> open = new ArrayDeque<>();
        open.add(new RiverSeniority());
        long elements = 0;
        while (!open.isEmpty()) {
            Object one = open.remove();
            if (seen.add(one)) {
                elements += parts(one, open);
            }
        }
        due("at most 3000 objects and arrays", seen.size() <= 3000 ? 0 : seen.size(), 0);
        due("at most 70000 fields and elements", elements <= 70000 ? 0L : elements, 0L);
        due("the rows are there already", elements > 30000, true);
    }

    /** The number of fields or elements; what they lead to is added. */
    private static long parts(Object one, Deque<Object> open) throws IllegalAccessException {
        if (one.getClass().isArray()) {
            int length = Array.getLength(one);
            for (int i = 0; i < length && one instanceof Object[]; i++) {
                addIfThere(Array.get(one, i), open);
            }
            return length;
        }
        long count = 0;
        for (Field field : one.getClass().getDeclaredFields()) {
            if (!Modifier.isStatic(field.getModifiers())) {
                count++;
                field.setAccessible(true);
                if (!field.getType().isPrimitive()) {
                    addIfThere(field.get(one), open);
                }
            }
        }
        return count;
    }

    private static void addIfThere(Object one, Deque<Object> open) {
        if (one != null) {
            open.add(one);
        }
    }

    private static void whatCallsMake() {
        about("room of calls");
        com.sun.management.ThreadMXBean threads = (com.sun.management.ThreadMXBean) ManagementFactory.getThreadMXBean();
        int[] basin = words(FIRST);
        int[] decree = words(LONG_DECREE);
        // The machine itself makes things now and then, but not in every round, as calls would.
        long least = Long.MAX_VALUE;
        for (int round = 0; round < 12; round++) {
            RiverSeniority x = new RiverSeniority();
            long before = threads.getThreadAllocatedBytes(Thread.currentThread().getId());
            everyCall(x, basin, decree);
            least = Math.min(least, threads.getThreadAllocatedBytes(Thread.currentThread().getId()) - before);
        }
        due("bytes that calls make", least, 0L);
    }

    private static int[] words(String text) {
        int[] words = new int[(text.length() + 19) / 20 * 5];
        for (int i = 0; i < words.length * 4; i++) {
            words[i / 4] = words[i / 4] << 8 | (i < text.length() ? text.charAt(i) : 0);
        }
        return words;
    }

    private static void say(RiverSeniority x, int[] words) {
        for (int i = 0; i < words.length; i += 5) {
            x.append(words[i], words[i + 1], words[i + 2], words[i + 3], words[i + 4]);
        }
    }

    private static long everyCall(RiverSeniority x, int[] basin, int[] decree) {
        long sum = x.clearText() + x.createBranch();
        for (int i = 0; i < 3; i++) {
            sum += texts(x, basin) + changes(x, decree) + questions(x) + whatIfs(x);
            sum += x.passWeek() + questions(x) + whatIfs(x) + x.undo() + x.redo();
            sum += x.difference(0) + x.difference(1) + x.switchBranch(i % 2) + x.abandon(3);
        }
        return sum;
    }

    private static long texts(RiverSeniority x, int[] basin) {
        say(x, basin);
        long sum = x.readBasin() + x.errorPosition();
        for (int i = x.writeBasin() - 1; i >= 0; i--) {
            sum += x.writtenAt(i);
        }
        return sum;
    }

    private static long changes(RiverSeniority x, int[] decree) {
        say(x, decree);
        long sum = x.setDecree(1) + x.addPlace(9, 9) + x.addReach(4, 3, 5, 1) + x.setCapacity(0, 3, 9);
        sum += x.addRight(3, 1870, 2) + x.setAsk(4, 2, 7, 8) + x.fund(0, 100) + x.lease(2, 2, 1, 5, 5);
        return sum + x.setInflow(0, 1, 3, 9) + x.gauge(0, 8) + x.measure(2, 1) + x.changedAmounts() + x.writeBasin();
    }

    private static long questions(RiverSeniority x) {
        long sum = x.today() + x.placeCount() + x.reachCount() + x.rightCount() + x.errors();
        for (int week = x.today(); week < 8; week++) {
            for (int right = 0; right < x.rightCount(); right++) {
                sum += x.askedAt(1, right, week) + x.amountAt(2, right, week) + x.total(right) + x.takenInMarks(right, week);
                sum += x.rankOf(right) + x.lessorOf(right) + x.balance(right);
                if (x.shortage(right, week) > 0) {
                    sum += x.witnessSize(right, week) + x.markWitness(right, week) + x.waterIntoMarks();
                }
            }
            sum += x.sent(0, week) + x.storageAt(0, week) + x.runOff(0, week) + x.capacityAt(0, week);
            sum += x.inflowAt(0, 0, week) + x.decreeValue(0, 1, week) + (x.mark(0, week, true) ? 1 : 0);
        }
        return sum + (x.isMarked(0, 7) ? 1 : 0) + x.clearMarks();
    }

    private static long whatIfs(RiverSeniority x) {
        long sum = (long) (x.meanShortage() + x.servedShare());
        sum += x.helpedRight(0, 3) + x.closureCost(0, 3) + x.harm(0, 1);
        return sum + x.injuredRight(0, 0, 1, 4, 6) + x.greatestLease(0, 2, 2, 6);
    }
}
