import com.sun.management.ThreadMXBean;
import java.lang.management.ManagementFactory;
import java.lang.reflect.Array;
import java.lang.reflect.Field;
import java.lang.reflect.Modifier;
import java.util.ArrayDeque;
import java.util.Collections;
import java.util.Deque;
import java.util.IdentityHashMap;
import java.util.Set;

/** The room of a run: what an object holds, and that none of 512 calls makes anything more. */
public final class RoomTest {
    private static final ThreadMXBean THREADS = (ThreadMXBean) ManagementFactory.getThreadMXBean();
    private static final int NONE = LentStairs.NONE;
    /** With those that full() needs, no more than the document's 512. */
    private static final int CALLS = 448;
    /** Far less than the smallest object made by each of the 28 calls of one kind; 0 is what has been seen. */
    private static final int BYTES_LEFT = 256;

    private static int sink = 0;
    private static int objects = 0;
    private static int parts = 0;

    public static void main(String[] args) throws Exception {
        holds();
        for (int round = 0; round < 3; round++) {
            reads(round);
            asks(round);
            acts(round);
            looks(round);
        }
        Check.due("some answers were used", sink != 0, true);
        Check.finish();
    }

    private static void holds() throws Exception {
        Check.says("What it is", "An object is used for at most 512 calls after it has been made");
        LentStairs x = full();
        count(x);
        Check.due("few objects and arrays: " + objects, objects <= 60, true);
        Check.due("few fields and elements: " + parts, parts <= 10000, true);
        int before = parts;
        x.image();
        Check.ask(x, "total purse (1 + 2) * reach min(1, 2) - stands max(0, 1)");
        Check.realm(x, "tower a steps 3;tower b steps 3;");
        x.lend(0, 1, 1, 9, 9);
        x.go(100);
        objects = 0;
        parts = 0;
        count(x);
        Check.due("calls leave it as large", parts, before);
    }

    private static void count(Object root) throws Exception {
        Set<Object> seen = Collections.newSetFromMap(new IdentityHashMap<>());
        Deque<Object> open = new ArrayDeque<>();
        open.add(root);
        seen.add(root);
        while (!open.isEmpty()) {
            Object one = open.poll();
            objects++;
            if (one.getClass().isArray()) {
                parts += Array.getLength(one);
                Check.due("rows of numbers alone", one.getClass().getComponentType().isPrimitive(), true);
                continue;
            }
            for (Field field : one.getClass().getDeclaredFields()) {
                if (Modifier.isStatic(field.getModifiers())) {
                    continue;
                }
                parts++;
                field.setAccessible(true);
                Object held = field.getType().isPrimitive() ? null : field.get(one);
                if (held != null && seen.add(held)) {
                    open.add(held);
                }
            }
        }
    }

    private static LentStairs full() {
        StringBuilder text = new StringBuilder();
        for (String name : new String[] {"a", "b", "c", "d"}) {
            text.append("tower ").append(name).append(" steps 14;");
            text.append("guard g").append(name).append(" of ").append(name).append(" legs 2 rope 1;");
            text.append("guard h").append(name).append(" of ").append(name).append(" legs 3 rope 6;");
        }
        for (int legs = 1; legs <= 6; legs++) {
            text.append("enemy ").append(legs).append(" odds ").append(legs).append(';');
        }
        for (int step = 1; step <= 12; step++) {
            text.append("loan ").append(step).append(" of a to b days ").append(8 * step).append(" rent ").append(step).append(';');
        }
        text.append("bends 9;");
        LentStairs x = Check.of(text.toString());
        for (int step = 1; step <= 12; step++) {
            Check.due("lend", x.lend(2, step, 3, 99, step), 11 + step);
        }
        return x;
    }

    /** In the first round the machine itself makes what it needs to run the calls at all. */
    private static void dueNothing(String what, int round, long before) {
        long made = THREADS.getCurrentThreadAllocatedBytes() - before;
        if (round > 0) {
            Check.due(what + " make nothing, not " + made + " bytes", made <= BYTES_LEFT, true);
        }
    }

    private static void reads(int round) {
        LentStairs x = new LentStairs();
        long before = THREADS.getCurrentThreadAllocatedBytes();
        for (int i = 0; i < CALLS / 4; i++) {
            // "tower a steps 3;    "
            sink += x.feed(0x746f7765, 0x72206120, 0x73746570, 0x7320333b, 0x20202020);
            sink += x.end(i % 21) ? 1 : 0;
            sink += x.realm() + x.fault(i % 3);
        }
        dueNothing("texts read", round, before);
    }

    private static void asks(int round) {
        LentStairs x = full();
        long before = THREADS.getCurrentThreadAllocatedBytes();
        for (int i = 0; i < CALLS / 4; i++) {
            // "often not held * 2 = lent or purse(1) > max(reach 1, stands 2)  "
            sink += x.feed(0x6f667465, 0x6e206e6f, 0x74206865, 0x6c64202a, 0x2032203d);
            sink += x.feed(0x206c656e, 0x74206f72, 0x20707572, 0x73652831, 0x29203e20);
            sink += x.feed(0x6d617828, 0x72656163, 0x6820312c, 0x20737461, 0x6e647320);
            sink += x.feed(0x32292020, 0x20202020, 0x20202020, 0x20202020, 0x20202020);
            sink += (int) x.ask();
        }
        dueNothing("questions", round, before);
        Check.due("the last one was read whole", x.fault(0), 0);
    }

    private static void acts(int round) {
        LentStairs x = full();
        long before = THREADS.getCurrentThreadAllocatedBytes();
        for (int i = 0; i < CALLS / 8; i++) {
            sink += x.go(1 + i % 9);
            sink += x.back(i % 24) ? 1 : 0;
            sink += x.refit(i % 4, 1 + i % 14) ? 1 : 0;
            sink += x.undo() ? 1 : 0;
            sink += x.lend(1, 1 + i % 14, 0, 9, 9);
            sink += x.undo() ? 1 : 0;
            sink += x.image() + x.octet(i);
        }
        dueNothing("acts", round, before);
    }

    private static void looks(int round) {
        LentStairs x = full();
        long before = THREADS.getCurrentThreadAllocatedBytes();
        for (int i = 0; i < CALLS / 16; i++) {
            int t = i % 5;
            sink += x.spare(t, NONE) + x.need(t, i % 4) + x.rescue(i % 3 - 1, i % 5) + x.falls(t, i % 7);
            sink += x.odds(t) + x.blame(i % 9, i % 4) + x.netted() + x.ring() + x.wood(i % 9) + x.rents(t, i % 102);
            sink += x.lost(t) + x.reaches(i % 9, i % 5) + x.hops(i % 9) + x.has(i % 11) + x.tower(t, i % 7) + x.status(i % 5);
        }
        dueNothing("looks", round, before);
    }
}
