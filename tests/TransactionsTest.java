/** Promises 12 to 16, and section 3: which jobs a transaction has, how it fails, and how it is merged. */
public final class TransactionsTest {

    private static final int START = 1;
    private static final int STOP = 2;
    private static final int RESTART = 3;
    private static final Check CHECK = new Check();

    private static ServiceManager targets(int count, String relations) {
        return Check.made(Check.targets(count, relations));
    }

    /** The jobs of a plan: to start, to stop, to restart, and the essential ones. */
    private static void planned(String what, ServiceManager manager, int unit, int type, int... due) {
        String before = Check.everything(manager);
        for (int which = 1; which <= 4; which++) {
            CHECK.due(what + ": plan(" + unit + ", " + type + ", " + which + ")", manager.plan(unit, type, which), due[which - 1]);
        }
        CHECK.due(what + ": plan(" + unit + ", " + type + ", 0)", manager.plan(unit, type, 0), due[0] | due[1] | due[2]);
        CHECK.due(what + ": everything after plan", Check.everything(manager), before);
    }

    /** A transaction that fails, however it is asked for, changes nothing. */
    private static void fails(String what, ServiceManager manager, int unit, int type, int code) {
        String before = Check.everything(manager);
        for (int which = 0; which <= 4; which++) {
            CHECK.due(what + ": plan", manager.plan(unit, type, which), code);
        }
        CHECK.due(what + ": planDepth", manager.planDepth(unit, type), code);
        CHECK.due(what + ": without replacing", called(manager, unit, type, false), code);
        CHECK.due(what + ": replacing", called(manager, unit, type, true), code);
        if (type == START) {
            CHECK.due(what + ": criticalTime", manager.criticalTime(unit), code);
            CHECK.due(what + ": ticksUntilActive", manager.ticksUntilActive(unit), code);
        }
        CHECK.due(what + ": everything", Check.everything(manager), before);
    }

    private static int called(ServiceManager manager, int unit, int type, boolean replace) {
        if (type == START) {
            return manager.start(unit, replace);
        }
        return type == STOP ? manager.stop(unit, replace) : manager.restart(unit, replace);
    }

    private static void startPulls() {
        ServiceManager manager = targets(6, ";a requires b;a wants c;a binds d;a conflicts e;f conflicts a;b wants f;c requires e");
        // c follows e, whose stop is essential: so c is stopped, too, and f is an opponent of a
        planned("a start with opponents that are down", manager, 0, START, 0b001011, 0, 0, 0b001011);
        manager.start(4, false);
        manager.start(5, false);
        planned("a start with opponents that are up", manager, 0, START, 0b001011, 0b110000, 0, 0b111011);
        CHECK.due("start() of five", manager.start(0, false), 5);
        CHECK.due("active after it", manager.inState(2), 0b001011);
        CHECK.due("start() of all again", manager.start(0, false), 0);
        CHECK.due("what had no job", manager.outcomeOf(2), ServiceManager.NONE);
        manager = targets(4, ";a wants b;a requires c;b wants d");
        planned("wanted units that want", manager, 0, START, 0b1111, 0, 0, 0b0101);
        planned("wanted, and then needed", targets(3, ";a wants b;a wants c;a binds c;b requires c"), 0, START, 0b111, 0, 0, 0b101);
    }

    private static void stopPulls() {
        ServiceManager manager = targets(6, ";b requires a;c binds a;d partof a;e wants a;f requires d;a requires e");
        for (int unit = 0; unit < 6; unit++) {
            manager.start(unit, false);
        }
        CHECK.due("all are active", manager.inState(2), 0b111111);
        planned("a stop", manager, 0, STOP, 0, 0b101111, 0, 0b101111);
        planned("a stop that all follow", manager, 4, STOP, 0, 0b111111, 0, 0b111111);
        CHECK.due("stop()", manager.stop(3, false), 2);
        planned("a stop when some are down", manager, 0, STOP, 0, 0b000111, 0, 0b000111);
        CHECK.due("stop() of the rest", manager.stop(0, false), 3);
        CHECK.due("active after it", manager.inState(2), 0b010000);
        CHECK.due("stop() again", manager.stop(0, false), 0);
    }

    private static void restartPulls() {
        ServiceManager manager = Check.made("service a run 4 exit 1;service b startup 9;service c;service d stopping 9;"
            + "service e run 2 exit 1;service f run 2 exit 1 restart always delay 50;target g;target h;"
            + "b partof a;c partof a;d partof a;e partof a;f partof a;g partof a;a requires h");
        manager.start(0, false);
        manager.start(4, false);
        manager.start(5, false);
        manager.start(3, false);
        manager.advance(2);
        manager.start(1, false);
        manager.start(2, false);
        manager.stop(3, false);
        int[] states = {2, 1, 2, 3, 4, 5, 0, 2};
        for (int unit = 0; unit < 8; unit++) {
            CHECK.due("the state of " + unit, manager.stateOf(unit), states[unit]);
        }
        // those in the states 4 and 0 stay as they are; the start of h is needless
        planned("a restart", manager, 0, RESTART, 0, 0, 0b00101111, 0b00101111);
        planned("a restart of what is needed", manager, 7, RESTART, 0, 0, 0b10101111, 0b10101111);
        planned("a restart of what is down", manager, 6, RESTART, 0, 0, 0b01000000, 0b01000000);
        CHECK.due("restart()", manager.restart(0, true), 5);
        CHECK.due("the job of one that was stopping", manager.jobOf(3), RESTART);
    }

    private static void startAndRestart() {
        ServiceManager manager = targets(3, ";b requires a;b wants c;c partof a;c requires b");
        manager.start(2, false);
        // b is to restart as it follows a, and to start as c needs it: it is to restart
        planned("start and restart", manager, 0, RESTART, 0, 0, 0b111, 0b111);
        manager = targets(3, ";b partof a;a wants b;c conflicts b");
        manager.start(0, false);
        planned("wanted and restarted", manager, 0, RESTART, 0, 0, 0b011, 0b011);
        manager.setMasked(1, true);
        fails("wanted, restarted and masked", manager, 0, RESTART, ServiceManager.MASKED);
    }

    private static void masked() {
        ServiceManager manager = targets(6, ";a requires b;a wants c;c requires d;c wants e;a wants f;f requires d");
        manager.setMasked(2, true);
        planned("what is wanted is masked", manager, 0, START, 0b101011, 0, 0, 0b000011);
        manager.setMasked(3, true);
        planned("what is needed by what is wanted is masked", manager, 0, START, 0b100011, 0, 0, 0b000011);
        manager.setMasked(2, false);
        planned("what is needed twice is masked", manager, 0, START, 0b110111, 0, 0, 0b000011);
        manager.setMasked(1, true);
        fails("what is needed is masked", manager, 0, START, ServiceManager.MASKED);
        fails("the unit is masked", manager, 1, START, ServiceManager.MASKED);
        fails("the unit to restart is masked", manager, 1, RESTART, ServiceManager.MASKED);
        CHECK.due("stop() of a masked unit", manager.stop(1, false), 0);
        manager.setMasked(1, false);
        manager.start(0, false);
        CHECK.due("active without what needs a masked unit", manager.inState(2), 0b010011);
        manager.setMasked(1, true);
        fails("an active unit is masked", manager, 0, START, ServiceManager.MASKED);
        fails("a unit that follows is masked", Masked.following(), 0, RESTART, ServiceManager.MASKED);
    }

    /** An active unit that follows another one, and is masked. */
    private static final class Masked {
        static ServiceManager following() {
            ServiceManager manager = targets(2, ";b requires a");
            manager.start(1, false);
            manager.setMasked(1, true);
            return manager;
        }
    }

    private static void conflicts() {
        fails("a unit is needed and an opponent", targets(2, ";a requires b;b conflicts a"), 0, START, ServiceManager.CONFLICT);
        fails("to restart, too", targets(2, ";a binds b;a conflicts b"), 0, RESTART, ServiceManager.CONFLICT);
        fails("two that are needed", targets(3, ";a requires b;a requires c;c conflicts b"), 0, START, ServiceManager.CONFLICT);
        fails("the opponent of what is needed follows", targets(4, ";a requires b;b requires c;b conflicts d;c partof d"), 0, START,
            ServiceManager.CONFLICT);
        ServiceManager manager = targets(2, ";a requires b;b conflicts a");
        manager.setMasked(1, true);
        fails("MASKED comes before CONFLICT", manager, 0, START, ServiceManager.MASKED);
        fails("CONFLICT comes before CYCLE", targets(2, ";a requires b;b conflicts a;a after b;b after a"), 0, START,
            ServiceManager.CONFLICT);
    }

    private static void bans() {
        ServiceManager manager = targets(4, ";a wants b;b conflicts a;b requires d");
        planned("the start that is wanted is banned", manager, 0, START, 0b0001, 0, 0, 0b0001);
        manager = targets(3, ";a wants b;a wants c;b conflicts c");
        manager.start(1, false);
        planned("the smallest unit is treated first", manager, 0, START, 0b101, 0b010, 0, 0b001);
        // x is needed and part of y, which is an opponent of the wanted w: its stop is not essential
        manager = targets(4, ";a requires b;b partof c;a wants d;d conflicts c");
        manager.start(2, false);
        planned("the stop is banned", manager, 0, START, 0b1011, 0b0100, 0, 0b0011);
        CHECK.due("start() of these", manager.start(0, false), 4);
        CHECK.due("active after it", manager.inState(2), 0b1011);
        // three bans after one another: c, then e, then g
        manager = targets(8, ";a wants b;a wants c;b conflicts c;a wants d;a wants e;d conflicts e;a wants f;a wants g;f conflicts g;b wants h");
        planned("several bans", manager, 0, START, 0b01010101, 0, 0, 1);
    }

    private static void needless() {
        ServiceManager manager = Check.made("service a startup 5;target b;service c stopping 4;a requires b;a wants c");
        CHECK.due("start() of three", manager.start(0, false), 3);
        // a has a job in the queue, the others are active without one
        planned("what has a job stays", manager, 0, START, 0b001, 0, 0, 0b001);
        CHECK.due("start() of what is starting", manager.start(0, false), 1);
        manager.advance(5);
        CHECK.due("start() of what is active", manager.start(0, false), 0);
        CHECK.due("planDepth() without jobs", manager.planDepth(0, START), 0);
        CHECK.due("restart() of what is active", manager.restart(0, false), 1);
        manager.advance(5);
        CHECK.due("stop() of what is stopping", manager.stop(2, false), 1);
        CHECK.due("stop() again", manager.stop(2, false), 1);
        manager.advance(4);
        CHECK.due("stop() of what is inactive", manager.stop(2, false), 0);
    }

    private static void needlessWithJob() {
        // c is inactive, and its start waits for a: so a stop of it is not needless
        ServiceManager manager = Check.made("service a startup 5;service b stopping 5;service c;c after a;c after b");
        manager.start(0, false);
        manager.start(2, false);
        CHECK.due("the start waits", manager.isRunning(2), false);
        planned("a stop of what is to start", manager, 2, STOP, 0, 0b100, 0, 0b100);
        CHECK.due("BUSY", manager.stop(2, false), ServiceManager.BUSY);
        CHECK.due("stop() of what is to start", manager.stop(2, true), 1);
        CHECK.due("its job waits", manager.jobOf(2), 0);
        CHECK.due("its outcome", manager.outcomeOf(2), 0);
    }

    private static void cycles() {
        fails("two that are ordered in a circle", targets(2, ";a requires b;a after b;b after a"), 0, START, ServiceManager.CYCLE);
        fails("three that are", targets(4, ";a requires b;b requires c;c before b;b before a;a before c;a wants d"), 0, START,
            ServiceManager.CYCLE);
        ServiceManager manager = targets(3, ";a wants b;a wants c;b after c;c after b");
        planned("the greatest unit is banned", manager, 0, START, 0b011, 0, 0, 0b001);
        manager = targets(4, ";a requires d;a wants b;a after b;b after d;d after a;b wants c");
        planned("the one that is wanted is banned", manager, 0, START, 0b1001, 0, 0, 0b1001);
        manager = targets(2, ";a requires b;a after b;b after a");
        CHECK.due("start() of one of them", manager.start(1, false), 1);
        // b is active then, its start is needless, and nothing is left of the circle
        planned("an active unit is in no circle", manager, 0, START, 0b01, 0, 0, 0b01);
        CHECK.due("start() of the other one", manager.start(0, false), 1);
        fails("both are to stop", manager, 1, STOP, ServiceManager.CYCLE);
        CHECK.due("stop() of one", manager.stop(0, false), 1);
        CHECK.due("stop() of the other one", manager.stop(1, false), 1);
        manager = targets(3, ";a wants b;c conflicts b;a after c;c after a;b after c;c after b");
        manager.start(2, false);
        planned("a stop precedes both ways", manager, 0, START, 0b011, 0b100, 0, 0b001);
        CHECK.due("the depth of it", manager.planDepth(0, START), 2);
    }

    private static void stopInCycle() {
        // the wanted b stops c, d and e; c and d are ordered in a circle: the greatest of both is banned
        ServiceManager manager = targets(5, ";a wants b;b conflicts c;d requires c;e requires c;c after d;d after c");
        manager.start(3, false);
        manager.start(2, false);
        CHECK.due("both cannot start at once", manager.inState(2), 0b00100);
        manager.start(3, false);
        manager.start(4, false);
        CHECK.due("all three are active", manager.inState(2), 0b11100);
        planned("a stop that is banned", manager, 0, START, 0b00011, 0b10100, 0, 0b00001);
    }

    private static void busy() {
        ServiceManager manager = Check.made("service a startup 5 stopping 3;service b startup 5;b requires a");
        manager.start(0, false);
        String before = Check.everything(manager);
        CHECK.due("stop() of what starts", manager.stop(0, false), ServiceManager.BUSY);
        CHECK.due("everything after BUSY", Check.everything(manager), before);
        CHECK.due("plan() knows no BUSY", manager.plan(0, STOP, 0), 0b01);
        CHECK.due("start() of what starts", manager.start(0, false), 1);
        CHECK.due("it runs on", manager.isRunning(0), true);
        CHECK.due("restart() of what starts", manager.restart(0, false), 1);
        CHECK.due("its job", manager.jobOf(0), RESTART);
        CHECK.due("start() of what restarts", manager.start(0, false), 1);
        CHECK.due("its job stays", manager.jobOf(0), RESTART);
        CHECK.due("and is running", manager.isRunning(0), true);
        CHECK.due("restart() of what restarts", manager.restart(0, false), 1);
        CHECK.due("it is running still", manager.isRunning(0), true);
        CHECK.due("stop() of what restarts", manager.stop(0, false), ServiceManager.BUSY);
        CHECK.due("stop() that replaces", manager.stop(0, true), 1);
        CHECK.due("the outcome of the restart", manager.outcomeOf(0), 4);
        CHECK.due("the job after it", manager.jobOf(0), STOP);
        before = Check.everything(manager);
        CHECK.due("start() of what stops", manager.start(0, false), ServiceManager.BUSY);
        CHECK.due("restart() of what stops", manager.restart(0, false), ServiceManager.BUSY);
        CHECK.due("start() of what needs it", manager.start(1, false), ServiceManager.BUSY);
        CHECK.due("everything after these", Check.everything(manager), before);
        CHECK.due("start() that replaces", manager.start(1, true), 2);
        CHECK.due("the outcome of the stop", manager.outcomeOf(0), 4);
        CHECK.due("the unit still stops", manager.stateOf(0), 3);
        CHECK.due("its start waits", manager.jobOf(0) == START && !manager.isRunning(0), true);
        CHECK.due("the other one starts", manager.isRunning(1), true);
    }

    private static void restartTakesTheRunningStart() {
        ServiceManager manager = Check.made("service a startup 5;service b startup 2;b after a");
        manager.start(1, false);
        manager.start(0, false);
        manager.restart(1, false);
        // b is activating, and its restart waits for the start of a
        CHECK.due("the job of b", manager.jobOf(1), RESTART);
        CHECK.due("it waits", manager.isRunning(1), false);
        CHECK.due("no job has ended", manager.outcomeOf(1), ServiceManager.NONE);
        CHECK.due("a start leaves it", manager.start(1, false), 1);
        CHECK.due("its job", manager.jobOf(1), RESTART);
        manager.advance(2);
        CHECK.due("the activation ends all the same", manager.stateOf(1), 2);
        CHECK.due("the restart still waits", manager.jobOf(1), RESTART);
        manager.advance(3);
        CHECK.due("then it restarts", manager.stateOf(1), 1);
        CHECK.due("as a start", manager.jobOf(1), START);
    }

    private static void depths() {
        ServiceManager manager = targets(6, ";a requires b;b requires c;a after b;b after c;a requires d;f conflicts a;a wants e;e before d");
        CHECK.due("planDepth of a start", manager.planDepth(0, START), 3);
        CHECK.due("planDepth of one", manager.planDepth(2, START), 1);
        CHECK.due("planDepth of a needless stop", manager.planDepth(0, STOP), 0);
        manager.start(5, false);
        CHECK.due("planDepth with a stop aside", manager.planDepth(0, START), 3);
        manager.start(0, false);
        CHECK.due("planDepth of a stop", manager.planDepth(2, STOP), 3);
        CHECK.due("planDepth of a restart", manager.planDepth(2, RESTART), 3);
        manager = targets(3, ";a requires b;c conflicts a;c after b;b after a");
        manager.start(2, false);
        // the stop of c precedes the start of b, though c is ordered after b; the start of a comes before b
        CHECK.due("planDepth of a start with a stop", manager.planDepth(0, START), 2);
        manager = targets(3, ";a requires b;c conflicts a;a after c;b after a");
        manager.start(2, false);
        CHECK.due("planDepth of a chain over a stop", manager.planDepth(0, START), 3);
    }

    private static void longChain() {
        StringBuilder relations = new StringBuilder();
        for (int unit = 1; unit < 16; unit++) {
            char one = (char) ('a' + unit);
            char before = (char) ('a' + unit - 1);
            relations.append(';').append(one).append(" requires ").append(before);
            relations.append(';').append(before).append(" before ").append(one);
        }
        ServiceManager manager = targets(16, relations.toString());
        CHECK.due("plan of 16", manager.plan(15, START, 4), 0xFFFF);
        CHECK.due("planDepth of 16", manager.planDepth(15, START), 16);
        CHECK.due("start() of 16", manager.start(15, false), 16);
        CHECK.due("all are active", manager.inState(2), 0xFFFF);
        CHECK.due("planDepth of 16 to stop", manager.planDepth(0, STOP), 16);
        CHECK.due("restart() of 16", manager.restart(0, false), 16);
        CHECK.due("all are active again", manager.inState(2), 0xFFFF);
        CHECK.due("stop() of 16", manager.stop(0, false), 16);
        CHECK.due("all are inactive", manager.inState(0), 0xFFFF);
    }

    public static void main(String[] args) {
        startPulls();
        stopPulls();
        restartPulls();
        startAndRestart();
        masked();
        conflicts();
        bans();
        needless();
        needlessWithJob();
        cycles();
        stopInCycle();
        busy();
        restartTakesTheRunningStart();
        depths();
        longChain();
        CHECK.finish();
    }
}
