import java.util.ArrayDeque;
import java.util.Deque;

/**
 * The way to times near the end of long within the 512 calls of an object: asleep a task keeps its
 * virtual time, so on a CPU whose base is still 0 it gains relative time, and moved back it doubles.
 */
final class Climb {
    /** What a task of weight 1 gains in a tick. */
    static final long TURN = 5040;

    private Climb() {
    }

    /** Ticks to make at first, then after each doubling, 1 or 2 so that the base follows. */
    static Deque<Integer> ticksTo(long turns) {
        Deque<Integer> ticks = new ArrayDeque<>();
        long rest = turns;
        while (rest > 100) {
            int last = rest % 2 == 0 ? 2 : 1;
            ticks.addFirst(last);
            rest = (rest - last) / 2;
        }
        ticks.addFirst((int) rest);
        return ticks;
    }

    /** Makes a task on CPU 0, alone on its core; its time and the base are turns * TURN then. */
    static int climb(CoreScheduler s, long turns) {
        Deque<Integer> ticks = ticksTo(turns);
        int task = s.createTask(0, 1, 0);
        s.tick(ticks.removeFirst());
        for (int next : ticks) {
            leap(s, task, 1, 0);
            s.tick(next);
        }
        return task;
    }

    /** Adds the difference of both bases to the time of a runnable task. */
    static void leap(CoreScheduler s, int task, int low, int high) {
        s.sleep(task);
        s.moveTask(task, low);
        s.wake(task);
        s.moveTask(task, high);
    }
}
