import java.lang.management.ManagementFactory;
import java.lang.reflect.Array;
import java.lang.reflect.Field;
import java.lang.reflect.Modifier;
import java.util.IdentityHashMap;
import java.util.Map;

/** All calls of a run live in one room: what an object holds is counted, and no call but a first image makes more. */
public final class RoomTest {
    private static final int ROOM_OBJECTS = 600_000, ROOM_PLACES = 7_300_000, CALLS_OF_AN_OBJECT = 512;
    private static final Checks checks = new Checks();

    public static void main(String[] args) throws IllegalAccessException {
        holdsLittle();
        callsMakeNothing();
        checks.finish();
    }

    /** Were each of an object's calls a run of its own object, they would fill less than the room. */
    private static void holdsLittle() throws IllegalAccessException {
        TideTreaty x = Scenes.make(Scenes.ALL_FULL);
        Map<Object, Object> seen = new IdentityHashMap<>();
        long places = places(x, seen);
        checks.due(0, "objects, " + seen.size(), (long) seen.size() * CALLS_OF_AN_OBJECT < ROOM_OBJECTS ? 1 : 0, 1);
        checks.due(0, "places, " + places, places * CALLS_OF_AN_OBJECT < ROOM_PLACES ? 1 : 0, 1);
    }

    /** The fields and elements of an object and of all that it holds. */
    private static long places(Object one, Map<Object, Object> seen) throws IllegalAccessException {
        if (one == null || seen.put(one, one) != null) return 0;
        if (one.getClass().isArray()) {
            long sum = Array.getLength(one);
            if (one instanceof Object[] row) {
                for (Object held : row) sum += places(held, seen);
            }
            return sum;
        }
        long sum = 0;
        for (Field f : one.getClass().getDeclaredFields()) {
            if (Modifier.isStatic(f.getModifiers())) continue;
            f.setAccessible(true);
            sum++;
            if (!f.getType().isPrimitive()) sum += places(f.get(one), seen);
        }
        return sum;
    }

    private static void callsMakeNothing() {
        // A machine that does not count what a thread makes can't be asked.
        if (!(ManagementFactory.getThreadMXBean() instanceof com.sun.management.ThreadMXBean thread)) return;
        if (!thread.isThreadAllocatedMemorySupported()) return;
        thread.setThreadAllocatedMemoryEnabled(true);
        int some = 0;
        long least = Long.MAX_VALUE;
        // The machine itself makes things while classes are new to it, so the least of some runs is what counts.
        for (int run = 0; run < 20; run++) {
            TideTreaty x = Scenes.make(Scenes.ALL_FULL);
            long ahead = thread.getCurrentThreadAllocatedBytes();
            some += eachCall(x);
            least = Math.min(least, thread.getCurrentThreadAllocatedBytes() - ahead);
        }
        checks.due(0, "bytes made by calls (" + some + ")", least, 0);
    }

    private static int eachCall(TideTreaty x) {
        int sum = x.coast(8) + x.cell(0, 1, 50, 1) + x.dike(0, 2) + x.want(1, 9) + x.moon(3) + x.bells(40);
        sum += x.treaty(5, 0, 7, 0, 30, 9) + x.treaty(4, 1, 2, 0, 30, 9) + x.end(1) + x.tide(0, 1, true);
        sum += x.year(9) + x.undo() + x.of(0, 4) + x.about(0, 2) + x.storm(7) + x.guarded() + x.wet();
        sum += x.then(30, 3) + x.firstLost() + x.offer(0, 3, 12, 1) + x.cheapest(8, 12, 0) + x.clashes(-1) + x.mend();
        sum += x.letsIn(1, 0) + x.rests(1) + x.learnt(0, 1) + x.shells(5, 1) + x.vote(9, 1, 0) + x.drawn(30, 77, 0);
        sum += x.image(0) + x.image(1) + x.burn(0) + x.burn(1) + x.from(0) + x.read() + x.type(300) + x.clear();
        for (int i = 0; i < Scenes.FULL_TEXT.length(); i++) sum += x.type(Scenes.FULL_TEXT.charAt(i));
        return sum + x.status(0) + x.count(6) + (int) x.digest();
    }
}
