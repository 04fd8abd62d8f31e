import com.sun.management.ThreadMXBean;
import java.lang.management.ManagementFactory;
import java.lang.reflect.Array;
import java.lang.reflect.Field;
import java.lang.reflect.Modifier;
import java.util.ArrayDeque;
import java.util.Collections;
import java.util.Deque;
import java.util.IdentityHashMap;
import java.util.Set;

/**
 * All calls of one run live in one room of some 600,000 objects and 7.3 million fields and elements: an ExamHalls has
 * all its rows from the beginning, and no call makes one more.
 */
public final class RoomTest {
    private static final int CALLS = 512;
    // A thousandth of the room.
    private static final int MOST_OBJECTS = 600, MOST_ELEMENTS = 7300;
    // The least object takes 16 bytes: less than one of them in 8 calls is what the measuring itself brings.
    private static final long MOST_BYTES = CALLS / 8 * 16;
    private static final long[] WORDS = {Schools.word("ab+25;cr"), Schools.word(";"), Schools.word("f+100r;a"),
        Schools.word("d"), Schools.word("x")};

    private RoomTest() {
    }

    public static void main(String[] args) throws IllegalAccessException {
        ExamHalls x = new ExamHalls();
        isSmall("a new object", x);
        runOf(x, 0);
        isSmall("an object after 512 calls", x);
        callsMakeNothing();
        Due.end();
    }

    private static void isSmall(String name, ExamHalls x) throws IllegalAccessException {
        Set<Object> seen = Collections.newSetFromMap(new IdentityHashMap<>());
        Deque<Object> open = new ArrayDeque<>();
        seen.add(x);
        open.add(x);
        int elements = 0;
        while (!open.isEmpty()) {
            Object next = open.remove();
            if (next.getClass().isArray()) {
                elements += Array.getLength(next);
                for (int i = 0; i < Array.getLength(next) && next instanceof Object[] row; i++) {
                    visit(row[i], seen, open);
                }
                continue;
            }
            for (Field field : next.getClass().getDeclaredFields()) {
                if (!Modifier.isStatic(field.getModifiers())) {
                    elements++;
                    field.setAccessible(true);
                    visit(field.getType().isPrimitive() ? null : field.get(next), seen, open);
                }
            }
        }
        Due.isTrue(name + " has " + seen.size() + " objects", seen.size() <= MOST_OBJECTS);
        Due.isTrue(name + " has " + elements + " fields and elements", elements <= MOST_ELEMENTS);
    }

    private static void visit(Object object, Set<Object> seen, Deque<Object> open) {
        if (object != null && seen.add(object)) {
            open.add(object);
        }
    }

    private static void callsMakeNothing() {
        ThreadMXBean threads = (ThreadMXBean) ManagementFactory.getThreadMXBean();
        long thread = Thread.currentThread().getId();
        threads.getThreadAllocatedBytes(thread);
        long answers = 0;
        for (int run = 0; run < 30; run++) {
            ExamHalls x = new ExamHalls();
            long before = threads.getThreadAllocatedBytes(thread);
            answers += runOf(x, run);
            long bytes = threads.getThreadAllocatedBytes(thread) - before;
            Due.isTrue("run " + run + " makes " + bytes + " bytes", bytes <= MOST_BYTES);
        }
        Due.isTrue("the runs answer something", answers != 0);
    }

    /** 512 calls, of each method some twenty, with arguments that are right for the most part. */
    private static long runOf(ExamHalls x, int seed) {
        long sum = 0;
        for (int i = 0; i < CALLS; i++) {
            int a = (i / 24 + seed) % 7;
            int b = (i / 5 + 3 * seed) % 20;
            sum += i % 24 < 12 ? changeOrLook(x, i % 24, a, b) : whatIfOrText(x, i % 24, a, b);
        }
        return sum;
    }

    private static int changeOrLook(ExamHalls x, int kind, int a, int b) {
        return switch (kind) {
            case 0 -> x.set(a % 3, b);
            case 1 -> x.paper(a, b, 30 + 7 * b);
            case 2 -> x.pupil(1 + 3 * b, 5 * b, b % 4 == 0);
            case 3 -> x.read();
            case 4 -> x.change(a, 63 - b, b, b % 2 == 0);
            case 5 -> b % 3 == 0 ? x.leave(a) : x.pupil(63, b, false);
            case 6 -> x.hall(a % 5, 1 + b % 4, 1 + a % 4);
            case 7 -> x.open(a % 5, b % 3 != 0);
            case 8 -> x.pupilOf(a, b % 7);
            case 9 -> x.paperOf(a, b % 7);
            case 10 -> x.sitting(b, a, b % 6);
            default -> x.hallOf(a % 5, b % 6);
        };
    }

    private static int whatIfOrText(ExamHalls x, int kind, int a, int b) {
        return switch (kind) {
            case 12 -> x.count(b % 14);
            case 13 -> x.at(a % 4, b % 8, 15 * b);
            case 14 -> x.ifStart(a, b, b % 3);
            case 15 -> x.bestStart(a);
            case 16 -> x.bestHalls(b % 2);
            case 17 -> x.leastRooms();
            case 18 -> x.put(WORDS[b % WORDS.length]);
            case 19 -> b % 5 == 0 ? x.wipe() : x.fault();
            case 20 -> x.fault();
            case 21 -> x.undo();
            case 22 -> x.save(a % 3);
            default -> x.restore(b % 3);
        };
    }
}
