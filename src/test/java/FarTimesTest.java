/** Virtual times at the end of long and behind it, where a time wraps around and is negative. */
public final class FarTimesTest {
    private static final Check CHECK = new Check("FarTimesTest");
    private static final long HIGH_TURNS = 800_000_000_000_000L;
    private static final long HIGH = 4_032_000_000_000_000_000L;
    /** Three times HIGH less 2 to the 64th. */
    private static final long WRAPPED = -6_350_744_073_709_551_616L;
    /** The last multiple of a turn that a long holds. */
    private static final long LAST_TURNS = Long.MAX_VALUE / Climb.TURN;
    private static final long LAST = LAST_TURNS * Climb.TURN;

    public static void main(String[] args) {
        climbs();
        baseStaysAboveTheLeastTime();
        baseStaysWithOneTask();
        baseGrowsAgain();
        wakingLiftsToTheBase();
        runsPastTheEnd();
        negativeRelativeTimeLeads();
        stolenPastTheEnd();
        timeAtTheVeryEnd();
        relativeTimeAtTheVeryEnd();
        CHECK.end();
    }

    private static CoreScheduler climbed(long turns) {
        CoreScheduler s = new CoreScheduler();
        Climb.climb(s, turns);
        return s;
    }

    private static void climbs() {
        CoreScheduler s = climbed(HIGH_TURNS);
        CHECK.due("the base", s.baseOf(0), HIGH);
        CHECK.due("the time", s.virtualTime(0), HIGH);
        CHECK.due("the sibling's base", s.baseOf(1), 0);
        CHECK.due("the last base", climbed(LAST_TURNS).baseOf(0), LAST);
    }

    /** Task 0 on CPU 0 with a negative time and a relative time of twice HIGH. */
    private static CoreScheduler wrapped() {
        CoreScheduler s = climbed(HIGH_TURNS);
        Climb.leap(s, 0, 1, 0);
        CHECK.due("one leap", s.virtualTime(0), 2 * HIGH);
        Climb.leap(s, 0, 1, 0);
        CHECK.due("the second leap wraps", s.virtualTime(0), WRAPPED);
        return s;
    }

    private static void baseStaysAboveTheLeastTime() {
        CoreScheduler s = wrapped();
        s.createTask(0, 1, 0);
        CHECK.due("a new task comes first", s.queuedTask(0, 0), 1);
        CHECK.due("the wrapped one is last", s.queuedTask(0, 1), 0);
        CHECK.due("leaderOf(0)", s.leaderOf(0), 1);
        s.tick(1);
        CHECK.due("the new task ran", s.virtualTime(1), HIGH + Climb.TURN);
        CHECK.due("the wrapped one waited", s.virtualTime(0), WRAPPED);
        CHECK.due("the base stays", s.baseOf(0), HIGH);
        s.createTask(0, 2, 0);
        CHECK.due("a task begins at the base", s.virtualTime(2), HIGH);
        s.tick(100);
        CHECK.due("the base stays for long", s.baseOf(0), HIGH);
    }

    private static void baseStaysWithOneTask() {
        CoreScheduler s = wrapped();
        s.tick(3);
        CHECK.due("it runs", s.virtualTime(0), WRAPPED + 3 * Climb.TURN);
        CHECK.due("the base stays", s.baseOf(0), HIGH);
    }

    private static void baseGrowsAgain() {
        CoreScheduler s = wrapped();
        s.createTask(0, 1, 0);
        s.tick(4);
        CHECK.due("held back", s.baseOf(0), HIGH);
        s.sleep(0);
        s.tick(1);
        CHECK.due("without the wrapped one", s.baseOf(0), HIGH + 5 * Climb.TURN);
    }

    private static void wakingLiftsToTheBase() {
        CoreScheduler s = wrapped();
        s.sleep(0);
        CHECK.due("wake(0)", s.wake(0), HIGH);
        s.tick(1);
        CHECK.due("the base follows", s.baseOf(0), HIGH + Climb.TURN);
    }

    private static void runsPastTheEnd() {
        CoreScheduler s = climbed(LAST_TURNS);
        s.tick(1);
        CHECK.due("the time is negative", s.virtualTime(0), LAST + Climb.TURN);
        CHECK.due("it is", s.virtualTime(0) < 0, true);
        CHECK.due("the base stays", s.baseOf(0), LAST);
        s.createTask(0, 1, 0);
        CHECK.due("a new task's time", s.virtualTime(1), LAST);
        CHECK.due("a turn ahead it is second", s.queuedTask(0, 1), 0);
        s.tick(1);
        CHECK.due("both are negative", s.virtualTime(1), LAST + Climb.TURN);
        CHECK.due("the base stays again", s.baseOf(0), LAST);
    }

    private static void negativeRelativeTimeLeads() {
        CoreScheduler s = new CoreScheduler();
        s.createTask(1, 1, 3);
        s.sleep(0);
        s.createTask(2, 1, 3);
        s.tick(10);
        s.sleep(1);
        s.moveTask(1, 1);
        int far = Climb.climb(s, LAST_TURNS);
        s.sleep(far);
        s.moveTask(far, 1);
        CHECK.due("wake(2)", s.wake(far), LAST);
        s.tick(1);
        CHECK.due("past the end", s.virtualTime(far), LAST + Climb.TURN);
        CHECK.due("baseOf(1)", s.baseOf(1), 0);
        CHECK.due("wake(0)", s.wake(0), 0);
        CHECK.due("wake(1)", s.wake(1), 10 * Climb.TURN);
        CHECK.due("less than 0 comes first", s.queuedTask(1, 0), far);
        CHECK.due("then 0", s.queuedTask(1, 1), 0);
        CHECK.due("then more than 0", s.queuedTask(1, 2), 1);
        CHECK.due("leaderOf(0)", s.leaderOf(0), far);
        s.tick(2);
        CHECK.due("it goes on", s.virtualTime(far), LAST + 3 * Climb.TURN);
        CHECK.due("baseOf(1) later", s.baseOf(1), 0);
    }

    private static void stolenPastTheEnd() {
        CoreScheduler s = climbed(HIGH_TURNS);
        Climb.leap(s, 0, 1, 0);
        s.sleep(0);
        s.moveTask(0, 2);
        CHECK.due("wake(0)", s.wake(0), 2 * HIGH);
        s.createTask(1, 1, 0);
        s.setStealing(true);
        CHECK.due("tick(1)", s.tick(1), 2);
        CHECK.due("CPU 0 stole it", s.cpuOf(0), 0);
        CHECK.due("it keeps its relative time", s.virtualTime(0), WRAPPED + Climb.TURN);
        CHECK.due("baseOf(0)", s.baseOf(0), HIGH);
        CHECK.due("baseOf(2)", s.baseOf(2), 0);
    }

    /** Task 0 alone on CPU 0, its time and the base at the greatest number that a long holds. */
    private static CoreScheduler atTheVeryEnd() {
        CoreScheduler s = climbed(LAST_TURNS);
        for (int weight : new int[] {3, 8, 37, 62}) {
            s.setWeight(0, weight);
            s.tick(1);
        }
        s.setWeight(0, 64);
        CHECK.due("the last time", s.virtualTime(0), Long.MAX_VALUE);
        CHECK.due("the last base", s.baseOf(0), Long.MAX_VALUE);
        return s;
    }

    private static void timeAtTheVeryEnd() {
        CoreScheduler s = atTheVeryEnd();
        s.createTask(0, 64, 0);
        CHECK.due("a new task's time", s.virtualTime(1), Long.MAX_VALUE);
        CHECK.due("a tie goes to the lower number", s.leaderOf(0), 0);
        s.tick(1);
        CHECK.due("one tick further", s.virtualTime(0), Long.MIN_VALUE + 77);
        CHECK.due("the base stays", s.baseOf(0), Long.MAX_VALUE);
        CHECK.due("relative time 0", s.queuedTask(0, 0), 1);
        CHECK.due("relative time 78", s.queuedTask(0, 1), 0);
        s.tick(1);
        CHECK.due("the other one too", s.virtualTime(1), Long.MIN_VALUE + 77);
        CHECK.due("the base still stays", s.baseOf(0), Long.MAX_VALUE);
        s.moveTask(0, 1);
        CHECK.due("moved to base 0", s.virtualTime(0), 78);
        s.moveTask(0, 0);
        CHECK.due("moved back", s.virtualTime(0), Long.MIN_VALUE + 77);
        s.sleep(0);
        CHECK.due("woken at the base", s.wake(0), Long.MAX_VALUE);
    }

    private static void relativeTimeAtTheVeryEnd() {
        CoreScheduler s = atTheVeryEnd();
        s.createTask(1, 1, 0);
        s.sleep(0);
        s.moveTask(0, 1);
        CHECK.due("relative time and time", s.wake(0), Long.MAX_VALUE);
        CHECK.due("0 comes first", s.queuedTask(1, 0), 1);
        CHECK.due("the greatest is last", s.queuedTask(1, 1), 0);
        s.sleep(1);
        s.tick(1);
        CHECK.due("one tick further", s.virtualTime(0), Long.MIN_VALUE + 77);
        CHECK.due("the base stays 0", s.baseOf(1), 0);
        s.wake(1);
        CHECK.due("a negative relative time comes first", s.queuedTask(1, 0), 0);
        CHECK.due("then 0", s.queuedTask(1, 1), 1);
        CHECK.due("and it leads", s.leaderOf(0), 0);
    }
}
