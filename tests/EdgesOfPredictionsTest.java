/** Promises 43 to 52, and what section 6 says of predictions: a test for each sentence that names a boundary case. */
public final class EdgesOfPredictionsTest {

    private static final int NONE = ServiceManager.NONE;
    private static final int CONFLICT = ServiceManager.CONFLICT;
    private static final int CYCLE = ServiceManager.CYCLE;
    private static final int MASKED = ServiceManager.MASKED;
    private static final Check CHECK = new Check();

    private static ServiceManager targets(int count, String relations) {
        return Check.made(Check.targets(count, relations));
    }

    private static void startAll(ServiceManager manager) {
        for (int unit = 0; unit < manager.unitCount(); unit++) {
            manager.start(unit, false);
        }
    }

    /** Relations of sixteen units, each with the next one; in a circle also of the last one with the first one. */
    private static String chain(String word, boolean circle) {
        StringBuilder relations = new StringBuilder();
        for (int unit = 0; unit < (circle ? 16 : 15); unit++) {
            relations.append(';').append((char) ('a' + unit)).append(' ').append(word).append(' ').append((char) ('a' + (unit + 1) % 16));
        }
        return relations.toString();
    }

    /** A service in each state but 2, then an active service, an active socket, and an active target. */
    private static ServiceManager inEachState() {
        ServiceManager manager = Check.made("service a;service b startup 9;service c;service d stopping 9;service e run 1 exit 1;"
            + "service f run 1 restart always delay 9;socket s c 5;target t");
        for (int unit = 1; unit < 8; unit++) {
            manager.start(unit, false);
        }
        manager.stop(3, false);
        manager.advance(1);
        return manager;
    }

    /** Services that start one after the other, 100 ticks each; the last one has this startup. */
    private static ServiceManager inARow(int count, int startup) {
        StringBuilder text = new StringBuilder("service a startup 100");
        for (int unit = 1; unit < count; unit++) {
            char one = (char) ('a' + unit);
            char before = (char) (one - 1);
            text.append(";service ").append(one).append(" startup ").append(unit == count - 1 ? startup : 100);
            text.append(';').append(one).append(" requires ").append(before).append(';').append(one).append(" after ").append(before);
        }
        return Check.made(text.toString());
    }

    /** Ten services that start one after the other, 100 ticks each; then one with this startup, which comes after them. */
    private static ServiceManager thousandTicks(int startup) {
        return inARow(11, startup);
    }

    // ---- promises 43 to 46

    /** Promise 43: "directly or through other units that it needs": none, and all fifteen others. */
    private static void allNeeded() {
        ServiceManager manager = targets(16, chain("requires", false));
        CHECK.due("allNeeded() of what needs nothing", manager.allNeeded(15), 0);
        CHECK.due("allNeeded() of what needs one", manager.allNeeded(14), 1 << 15);
        CHECK.due("allNeeded() of what needs all others", manager.allNeeded(0), 0xFFFE);
        CHECK.due("allNeeded() of what is bound to all others", targets(16, chain("binds", false)).allNeeded(0), 0xFFFE);
        CHECK.due("allNeeded() of what wants", targets(16, chain("wants", false)).allNeeded(0), 0);
        CHECK.due("allNeeded() of a part", targets(16, chain("partof", false)).allNeeded(0), 0);
    }

    /** Promise 43: "without the unit itself unless it is in a circle of needs". */
    private static void allNeededInCircle() {
        ServiceManager manager = targets(16, chain("requires", true));
        CHECK.due("allNeeded() in a circle of sixteen", manager.allNeeded(7), 0xFFFF);
        manager = targets(4, ";a requires b;b binds c;c requires b;c requires d");
        CHECK.due("allNeeded() of what needs a circle", manager.allNeeded(0), 0b1110);
        CHECK.due("allNeeded() in a circle of two", manager.allNeeded(1), 0b1110);
        CHECK.due("allNeeded() of what a circle needs", manager.allNeeded(3), 0);
    }

    /** Promise 44: "the unit itself included": alone, and all sixteen. */
    private static void allStopped() {
        ServiceManager manager = targets(16, chain("partof", false));
        CHECK.due("allStopped() of what none follows", manager.allStopped(0), 1);
        CHECK.due("allStopped() of what one follows", manager.allStopped(1), 3);
        CHECK.due("allStopped() of what all follow", manager.allStopped(15), 0xFFFF);
        CHECK.due("allStopped() in a circle", targets(16, chain("binds", true)).allStopped(3), 0xFFFF);
        CHECK.due("allStopped() of what is wanted", targets(16, chain("wants", true)).allStopped(3), 8);
    }

    /** Promise 44: "whatever their states are". */
    private static void allStoppedInAllStates() {
        ServiceManager manager = targets(3, ";b requires a;c partof b");
        CHECK.due("allStopped() when all are inactive", manager.allStopped(0), 0b111);
        CHECK.due("plan() then", manager.plan(0, 2, 0), 0);
        manager.start(1, false);
        CHECK.due("allStopped() when some are active", manager.allStopped(0), 0b111);
        CHECK.due("plan() then", manager.plan(0, 2, 0), 0b011);
    }

    /** Promise 45: "from which a chain of units, each ordered after the one before, leads back to themselves". */
    private static void orderingCircle() {
        CHECK.due("without an order", targets(16, "").orderingCircle(), 0);
        CHECK.due("a chain", targets(16, chain("after", false)).orderingCircle(), 0);
        CHECK.due("a circle of sixteen", targets(16, chain("after", true)).orderingCircle(), 0xFFFF);
        CHECK.due("a circle of sixteen by before", targets(16, chain("before", true)).orderingCircle(), 0xFFFF);
        CHECK.due("after and before", targets(2, ";a after b;a before b").orderingCircle(), 0b11);
        CHECK.due("after and before that say the same", targets(2, ";a after b;b before a").orderingCircle(), 0);
        CHECK.due("units beside a circle", targets(5, ";a after b;b after c;c after b;c after d;e after a").orderingCircle(), 0b00110);
        CHECK.due("a circle of needs", targets(2, ";a requires b;b requires a").orderingCircle(), 0);
    }

    /** Promise 46: "whether all units that the active units need are active": by requires and binds, of active units alone. */
    private static void isSound() {
        String[] words = {"requires", "binds", "wants", "partof", "conflicts", "after"};
        for (int word = 0; word < 6; word++) {
            ServiceManager manager = Check.made("service a startup 9;target b;b " + words[word] + " a");
            CHECK.due("isSound() when none is active", manager.isSound(), true);
            manager.start(1, false);
            CHECK.due("isSound() when b " + words[word] + " a, which is activating or inactive", manager.isSound(), word > 1);
            manager.start(0, false);
            manager.advance(9);
            CHECK.due("isSound() when a is active", manager.isSound(), true);
        }
        ServiceManager manager = Check.made("service a;service b startup 9;b requires a");
        manager.start(1, false);
        manager.kill(0, 1);
        CHECK.due("isSound() when b is activating", manager.isSound(), true);
        manager.advance(9);
        CHECK.due("isSound() when b is active", manager.isSound(), false);
        manager = Check.made("target a;service b startup 9;a requires b");
        manager.start(0, false);
        CHECK.due("isSound() when the first unit needs one that is activating", manager.isSound(), false);
        manager = targets(16, chain("requires", false));
        manager.start(0, false);
        CHECK.due("isSound() when sixteen are active", manager.isSound(), true);
    }

    // ---- promise 47

    /** Promise 47: "Returns 0 to 1000; NONE if it is not active within 1000 ticks": 0, 1, 1000 and 1001. */
    private static void ticksUntilActive() {
        ServiceManager manager = Check.made("service a;service b startup 1;target t;socket s a 5;service c fails 1");
        CHECK.refused("a startup of 0", manager, () -> manager.ticksUntilActive(0), 0);
        CHECK.refused("a startup of 1", manager, () -> manager.ticksUntilActive(1), 1);
        CHECK.refused("a target", manager, () -> manager.ticksUntilActive(2), 0);
        CHECK.refused("a socket", manager, () -> manager.ticksUntilActive(3), 0);
        CHECK.refused("what fails", manager, () -> manager.ticksUntilActive(4), NONE);
        CHECK.due("900 ticks", thousandTicks(0).ticksUntilActive(8), 900);
        CHECK.due("1000 ticks", thousandTicks(0).ticksUntilActive(10), 1000);
        CHECK.due("1001 ticks", thousandTicks(1).ticksUntilActive(10), NONE);
        ServiceManager later = thousandTicks(1);
        later.start(10, false);
        later.advance(1);
        CHECK.due("1001 ticks, a tick later", later.ticksUntilActive(10), 1000);
        later.advance(999);
        CHECK.due("1001 ticks, a tick before", later.ticksUntilActive(10), 1);
        later.advance(1);
        CHECK.due("what is active", later.ticksUntilActive(10), 0);
    }

    /** Promise 47: "by a transaction that replaces": it is never BUSY. */
    private static void ticksUntilActiveReplaces() {
        ServiceManager manager = Check.made("service a startup 2 stopping 5;service b startup 3;b conflicts a");
        manager.start(0, false);
        manager.stop(0, true);
        CHECK.refused("of what stops", manager, () -> manager.ticksUntilActive(0), 7);
        CHECK.due("start() that does not replace", manager.start(0, false), ServiceManager.BUSY);
        CHECK.refused("of its opponent", manager, () -> manager.ticksUntilActive(1), 3);
    }

    /** Promise 47: "CONFLICT, CYCLE or MASKED if the transaction fails". */
    private static void ticksUntilActiveFails() {
        ServiceManager manager = targets(5, ";a requires b;a conflicts b;c requires d;c after d;d after c;e requires a");
        CHECK.refused("CONFLICT", manager, () -> manager.ticksUntilActive(0), CONFLICT);
        CHECK.refused("CYCLE", manager, () -> manager.ticksUntilActive(2), CYCLE);
        manager.setMasked(1, true);
        CHECK.refused("MASKED", manager, () -> manager.ticksUntilActive(4), MASKED);
        manager.start(3, false);
        manager.setMasked(3, true);
        CHECK.refused("MASKED, though it is active", manager, () -> manager.ticksUntilActive(3), MASKED);
    }

    // ---- promise 48

    /** Promise 48: "Returns 0 to 1000; NONE if that is not so within 1000 ticks": 0, 1, 1000 and 1001. */
    private static void ticksUntilQuiet() {
        CHECK.due("without units", new ServiceManager().ticksUntilQuiet(), 0);
        ServiceManager manager = thousandTicks(1);
        CHECK.refused("nothing is done", manager, manager::ticksUntilQuiet, 0);
        manager.start(10, false);
        CHECK.refused("1001 ticks", manager, manager::ticksUntilQuiet, NONE);
        manager.advance(1);
        CHECK.refused("1000 ticks", manager, manager::ticksUntilQuiet, 1000);
        manager.advance(999);
        CHECK.refused("1 tick", manager, manager::ticksUntilQuiet, 1);
        manager.advance(1);
        CHECK.refused("0 ticks", manager, manager::ticksUntilQuiet, 0);
    }

    /** Promise 48: "the queue is empty and no unit is in the state 1, 3 or 5": each of these alone. */
    private static void notQuiet() {
        ServiceManager activating = Check.made("service x stopping 5;service a startup 9;x after a");
        activating.start(0, false);
        activating.start(1, false);
        activating.stop(0, false);
        activating.stop(1, true);
        activating.cancel(1);
        activating.advance(5);
        CHECK.due("no job, but the state 1", Check.states(activating) + activating.queueLength(), "010");
        CHECK.due("ticksUntilQuiet() then", activating.ticksUntilQuiet(), 4);
        ServiceManager deactivating = Check.made("service a stopping 9");
        deactivating.start(0, false);
        deactivating.stop(0, false);
        deactivating.start(0, true);
        deactivating.cancel(0);
        CHECK.due("no job, but the state 3", Check.states(deactivating) + deactivating.queueLength(), "30");
        CHECK.due("ticksUntilQuiet() then", deactivating.ticksUntilQuiet(), 9);
        ServiceManager awaiting = Check.made("service a restart always delay 9");
        awaiting.start(0, false);
        awaiting.kill(0, 0);
        CHECK.due("no job, but the state 5", Check.states(awaiting) + awaiting.queueLength(), "50");
        CHECK.due("ticksUntilQuiet() then", awaiting.ticksUntilQuiet(), 9);
        ServiceManager failed = Check.made("service a run 1 exit 1;service b;target t");
        startAll(failed);
        failed.advance(1);
        CHECK.due("the states 4 and 2", Check.states(failed), "422");
        CHECK.due("ticksUntilQuiet() then", failed.ticksUntilQuiet(), 0);
    }

    /** Promise 48 and section 4: jobs of several calls that precede one another in a circle wait for ever, in a queue that is not empty. */
    private static void circleInTheQueue() {
        ServiceManager manager = Check.made("service x startup 9;target a;target b;a after x;a after b;b after a");
        startAll(manager);
        manager.advance(9);
        CHECK.due("both wait", Check.jobs(manager), "0/0 1/-1 1/-1");
        CHECK.due("precedingJobs(a)", manager.precedingJobs(1), 0b100);
        CHECK.due("precedingJobs(b)", manager.precedingJobs(2), 0b010);
        CHECK.refused("ticksUntilQuiet()", manager, manager::ticksUntilQuiet, NONE);
        manager.advance(1000);
        CHECK.due("both wait still", manager.queueLength(), 2);
        CHECK.due("cancel() of one", manager.cancel(1), 0);
        CHECK.due("the other one has run", Check.states(manager), "202");
    }

    // ---- promise 49

    /** Promise 49: "ticks: 0 to 1000"; "Throws IllegalArgumentException if ticks is out of range". */
    private static void stateAfter() {
        ServiceManager manager = thousandTicks(0);
        manager.start(10, false);
        CHECK.refused("stateAfter(10, 0)", manager, () -> manager.stateAfter(10, 0), 0);
        CHECK.refused("stateAfter(10, 999)", manager, () -> manager.stateAfter(10, 999), 0);
        CHECK.refused("stateAfter(10, 1000)", manager, () -> manager.stateAfter(10, 1000), 2);
        CHECK.refused("stateAfter(0, 99)", manager, () -> manager.stateAfter(0, 99), 1);
        CHECK.refused("stateAfter(0, 100)", manager, () -> manager.stateAfter(0, 100), 2);
        for (int ticks : new int[] {-1, 1001, Integer.MIN_VALUE, Integer.MAX_VALUE}) {
            CHECK.outOfRange("stateAfter(0, " + ticks + ")", manager, () -> manager.stateAfter(0, ticks));
            CHECK.noSuchUnit("stateAfter(11, " + ticks + ")", manager, () -> manager.stateAfter(11, ticks));
        }
    }

    /** Promise 49: the state after 0 ticks is that of now, whichever it is. */
    private static void stateAfterNoTick() {
        ServiceManager manager = inEachState();
        for (int unit = 0; unit < 8; unit++) {
            CHECK.due("stateAfter(" + unit + ", 0)", manager.stateAfter(unit, 0), manager.stateOf(unit));
        }
    }

    // ---- promises 50 and 51

    /** Promise 50: "ticks: 0 to 200"; "Throws IllegalArgumentException if ticks is out of range". */
    private static void damageOf() {
        ServiceManager manager = Check.made("service a;target b;service c run 200;target t;b binds a");
        startAll(manager);
        CHECK.refused("damageOf(0, 0)", manager, () -> manager.damageOf(0, 0), 0b0011);
        CHECK.refused("damageOf(0, 199)", manager, () -> manager.damageOf(0, 199), 0b0011);
        CHECK.refused("damageOf(0, 200)", manager, () -> manager.damageOf(0, 200), 0b0111);
        for (int ticks : new int[] {-1, 201, Integer.MIN_VALUE, Integer.MAX_VALUE}) {
            CHECK.outOfRange("damageOf(0, " + ticks + ")", manager, () -> manager.damageOf(0, ticks));
            CHECK.outOfRange("damageOf(3, " + ticks + ") of a target", manager, () -> manager.damageOf(3, ticks));
            CHECK.noSuchUnit("damageOf(4, " + ticks + ")", manager, () -> manager.damageOf(4, ticks));
        }
    }

    /** Promise 50: "0 if the unit is no service, or not in the state 1 or 2": in each state. */
    private static void damageInEachState() {
        ServiceManager manager = inEachState();
        for (int unit : new int[] {0, 3, 4, 5, 6, 7}) {
            CHECK.refused("damageOf(" + unit + ", 200)", manager, () -> manager.damageOf(unit, 200), 0);
        }
        CHECK.refused("damageOf() in the state 1", manager, () -> manager.damageOf(1, 0), 0);
        CHECK.refused("damageOf() in the state 2", manager, () -> manager.damageOf(2, 0), 0b00000100);
    }

    /** Promise 50: "units that are active now": what is not active now is no damage; what is active again, neither. */
    private static void damageOfWhatIsActiveNow() {
        ServiceManager manager = Check.made("service a restart failure delay 3;service b startup 9;service c;b binds a;c binds a");
        startAll(manager);
        CHECK.due("at once", manager.damageOf(0, 0), 0b101);
        CHECK.due("a tick before the restart", manager.damageOf(0, 2), 0b101);
        CHECK.due("after the restart", manager.damageOf(0, 3), 0b100);
        CHECK.due("in the state 1", manager.damageOf(1, 200), 0);
    }

    /** Promise 51: "the smallest of several; NONE if there are no units". */
    private static void weakest() {
        CHECK.due("no units", new ServiceManager().weakest(), NONE);
        ServiceManager manager = Check.made("target t;service a;service b;service c;target d;d binds c");
        CHECK.refused("nothing is active", manager, manager::weakest, 0);
        manager.start(0, false);
        CHECK.refused("only a target is active", manager, manager::weakest, 0);
        manager.start(2, false);
        CHECK.refused("b alone", manager, manager::weakest, 2);
        manager.start(1, false);
        CHECK.refused("a and b", manager, manager::weakest, 1);
        manager.start(3, false);
        CHECK.refused("a, b and c", manager, manager::weakest, 1);
        manager.start(4, false);
        CHECK.refused("c with d", manager, manager::weakest, 3);
    }

    // ---- promise 52

    /** Promise 52: "the greatest sum of startup (0 for sockets and targets)"; "0 without such jobs". */
    private static void criticalTime() {
        ServiceManager manager = Check.made("service a startup 0;service b startup 100;socket s b 5;target t;t requires b;t after b;s requires b;s before b");
        CHECK.refused("a startup of 0", manager, () -> manager.criticalTime(0), 0);
        CHECK.refused("a startup of 100", manager, () -> manager.criticalTime(1), 100);
        CHECK.refused("a socket", manager, () -> manager.criticalTime(2), 100);
        CHECK.refused("a target", manager, () -> manager.criticalTime(3), 100);
        manager.start(1, false);
        CHECK.refused("a job that is running counts", manager, () -> manager.criticalTime(3), 100);
        manager.advance(100);
        CHECK.refused("what is active does not", manager, () -> manager.criticalTime(3), 0);
        CHECK.refused("no job at all", manager, () -> manager.criticalTime(1), 0);
    }

    /** Promise 52: "of all chains of jobs": sixteen with 100 ticks each; and without an order each job is a chain alone. */
    private static void criticalTimeOfSixteen() {
        CHECK.due("sixteen in a row", inARow(16, 100).criticalTime(15), 1600);
        CHECK.due("the first one of them", inARow(16, 100).criticalTime(0), 100);
        StringBuilder text = new StringBuilder("service a startup 8");
        for (int unit = 1; unit < 16; unit++) {
            char one = (char) ('a' + unit);
            text.append(";service ").append(one).append(" startup ").append(unit).append(";a wants ").append(one);
        }
        CHECK.due("sixteen without an order", Check.made(text.toString()).criticalTime(0), 15);
        CHECK.due("the last one before the first one", Check.made(text + ";a after p").criticalTime(0), 23);
    }

    /** Promise 52: "chains of jobs to start or restart": a job to stop is in none of them. */
    private static void criticalTimeWithoutStops() {
        ServiceManager manager = Check.made("service a startup 5;service b startup 7;service c startup 50;a requires b;a conflicts c;b after c;a after c");
        manager.start(2, false);
        manager.advance(50);
        CHECK.due("planDepth()", manager.planDepth(0, 1), 2);
        CHECK.due("criticalTime()", manager.criticalTime(0), 7);
    }

    /** Promise 52: "CONFLICT, CYCLE or MASKED". */
    private static void criticalTimeFails() {
        ServiceManager manager = targets(5, ";a requires b;a conflicts b;c requires d;c after d;d after c;e requires a");
        CHECK.refused("CONFLICT", manager, () -> manager.criticalTime(0), CONFLICT);
        CHECK.refused("CYCLE", manager, () -> manager.criticalTime(2), CYCLE);
        manager.setMasked(1, true);
        CHECK.refused("MASKED", manager, () -> manager.criticalTime(4), MASKED);
    }

    /** Promises 43, 44, 47, 49, 50 and 52: "if there is no such unit". */
    private static void noSuchUnit() {
        ServiceManager manager = targets(3, "");
        for (int unit : new int[] {-1, 3, 16, Integer.MIN_VALUE, Integer.MAX_VALUE}) {
            CHECK.noSuchUnit("allNeeded(" + unit + ")", manager, () -> manager.allNeeded(unit));
            CHECK.noSuchUnit("allStopped(" + unit + ")", manager, () -> manager.allStopped(unit));
            CHECK.noSuchUnit("ticksUntilActive(" + unit + ")", manager, () -> manager.ticksUntilActive(unit));
            CHECK.noSuchUnit("stateAfter(" + unit + ", 0)", manager, () -> manager.stateAfter(unit, 0));
            CHECK.noSuchUnit("damageOf(" + unit + ", 0)", manager, () -> manager.damageOf(unit, 0));
            CHECK.noSuchUnit("criticalTime(" + unit + ")", manager, () -> manager.criticalTime(unit));
        }
    }

    // ---- section 6

    /** Section 6: "Predictions change nothing": whatever happens in them. */
    private static void changeNothing() {
        ServiceManager manager = Check.made("service a run 3 exit 1 restart failure delay 2 limit 3 40;service b startup 4 stopping 3 idle 7 restart always;"
            + "socket s b 2;service c fails 2 restart always delay 5;target t;t binds a;t after b");
        startAll(manager);
        manager.connect(2, 1);
        manager.append('x');
        ServiceManager same = Check.made("service a run 3 exit 1 restart failure delay 2 limit 3 40;service b startup 4 stopping 3 idle 7 restart always;"
            + "socket s b 2;service c fails 2 restart always delay 5;target t;t binds a;t after b");
        startAll(same);
        same.connect(2, 1);
        same.append('x');
        for (int time = 1; time <= 40; time++) {
            String before = Check.whole(manager);
            for (int unit = 0; unit < 5; unit++) {
                manager.ticksUntilActive(unit);
                manager.stateAfter(unit, 1000);
                manager.damageOf(unit, 200);
                manager.criticalTime(unit);
            }
            manager.ticksUntilQuiet();
            manager.weakest();
            CHECK.due("everything after predictions at " + time, Check.whole(manager), before);
            manager.advance(1);
            same.advance(1);
            CHECK.due("everything without predictions at " + time, Check.whole(manager), Check.whole(same));
        }
    }

    /** Section 6: "they simulate ticks from now on": also past the time 1000000. */
    private static void pastTheEndOfTime() {
        ServiceManager manager = Check.made("service a startup 100;service b run 9 exit 1 restart failure delay 1");
        Check.letPass(manager, 1000000);
        manager.start(1, false);
        CHECK.refused("ticksUntilActive()", manager, () -> manager.ticksUntilActive(0), 100);
        CHECK.refused("stateAfter(1, 9)", manager, () -> manager.stateAfter(1, 9), 5);
        CHECK.refused("stateAfter(1, 10)", manager, () -> manager.stateAfter(1, 10), 2);
        CHECK.refused("damageOf(1, 0)", manager, () -> manager.damageOf(1, 0), 0b10);
        CHECK.refused("damageOf(1, 1)", manager, () -> manager.damageOf(1, 1), 0);
        manager.start(0, false);
        CHECK.refused("ticksUntilQuiet()", manager, manager::ticksUntilQuiet, 100);
    }

    public static void main(String[] args) {
        allNeeded();
        allNeededInCircle();
        allStopped();
        allStoppedInAllStates();
        orderingCircle();
        isSound();
        ticksUntilActive();
        ticksUntilActiveReplaces();
        ticksUntilActiveFails();
        ticksUntilQuiet();
        notQuiet();
        circleInTheQueue();
        stateAfter();
        stateAfterNoTick();
        damageOf();
        damageInEachState();
        damageOfWhatIsActiveNow();
        weakest();
        criticalTime();
        criticalTimeOfSixteen();
        criticalTimeWithoutStops();
        criticalTimeFails();
        noSuchUnit();
        changeNothing();
        pastTheEndOfTime();
        CHECK.finish();
    }
}
