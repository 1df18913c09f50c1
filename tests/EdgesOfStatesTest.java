/** Promises 29 to 42, and of section 6 the log: a test for each sentence that names a boundary case. */
public final class EdgesOfStatesTest {

    private static final int NONE = ServiceManager.NONE;
    private static final Check CHECK = new Check();

    private static void startAll(ServiceManager manager) {
        for (int unit = 0; unit < manager.unitCount(); unit++) {
            manager.start(unit, false);
        }
    }

    /** A service in each state, a socket and a target. */
    private static ServiceManager inEachState() {
        ServiceManager manager = Check.made("service a;service b startup 9;service c;service d stopping 9;service e run 1 exit 1;"
            + "service f run 1 restart always delay 9;socket s c 5;target t");
        for (int unit = 1; unit < 8; unit++) {
            manager.start(unit, false);
        }
        manager.stop(3, false);
        manager.advance(1);
        return manager;
    }

    // ---- promises 29 and 30

    /** Promise 29: "Returns 0 to 5 (section 1)". */
    private static void stateOf() {
        ServiceManager manager = inEachState();
        int[] states = {0, 1, 2, 3, 4, 5, 2, 2};
        for (int unit = 0; unit < 8; unit++) {
            CHECK.due("stateOf(" + unit + ")", manager.stateOf(unit), states[unit]);
        }
    }

    /** Promise 30: "state: 0 to 5"; "Throws IllegalArgumentException if state is out of range". */
    private static void inState() {
        ServiceManager manager = inEachState();
        int[] sets = {0b00000001, 0b00000010, 0b11000100, 0b00001000, 0b00010000, 0b00100000};
        for (int state = 0; state <= 5; state++) {
            CHECK.due("inState(" + state + ")", manager.inState(state), sets[state]);
        }
        for (ServiceManager one : new ServiceManager[] {manager, new ServiceManager()}) {
            for (int state : new int[] {-1, 6, 32, Integer.MIN_VALUE, Integer.MAX_VALUE}) {
                CHECK.outOfRange("inState(" + state + ")", one, () -> one.inState(state));
            }
        }
    }

    /** Promise 30: "Returns the set of units": none and all. */
    private static void inStateOfAll() {
        ServiceManager manager = Check.made(Check.targets(16, ""));
        CHECK.due("inState(0) of sixteen", manager.inState(0), 65535);
        CHECK.due("inState(4) of none", manager.inState(4), 0);
        startAll(manager);
        CHECK.due("inState(2) of sixteen", manager.inState(2), 65535);
        CHECK.due("inState(0) of none", manager.inState(0), 0);
    }

    // ---- promises 31 and 32

    /** Promise 31: "Returns 0 success, 1 exit with a code other than 0, 3 by the limit". */
    private static void resultOf() {
        ServiceManager manager = Check.made("service a limit 2 99;socket s a 5;target t");
        for (int unit = 0; unit < 3; unit++) {
            CHECK.due("resultOf(" + unit + ") at first", manager.resultOf(unit), 0);
        }
        startAll(manager);
        manager.kill(0, 255);
        CHECK.due("resultOf() of an exit with 255", manager.resultOf(0), 1);
        manager.start(0, false);
        CHECK.due("resultOf() stays while it is active", manager.resultOf(0), 1);
        manager.restart(0, false);
        CHECK.due("resultOf() by the limit", manager.resultOf(0), 3);
        CHECK.due("resultOf() of its socket", manager.resultOf(1), 3);
        CHECK.due("resultOf() of a target", manager.resultOf(2), 0);
        manager.advance(99);
        manager.start(0, false);
        CHECK.due("resultOf() stays until it stops", manager.resultOf(0), 3);
        manager.kill(0, 0);
        CHECK.due("resultOf() of an exit with 0", manager.resultOf(0), 0);
    }

    /** Promise 32: "Returns 0 to 255, 0 if there was none": the latest exit counts, and a stop is none. */
    private static void exitCode() {
        ServiceManager manager = Check.made("service a run 9 exit 255;socket s a 5;target t;service b fails 1");
        for (int unit = 0; unit < 4; unit++) {
            CHECK.due("exitCode(" + unit + ") without an exit", manager.exitCode(unit), 0);
        }
        startAll(manager);
        CHECK.due("exitCode() of a failed activation", manager.exitCode(3), 1);
        manager.advance(9);
        CHECK.due("exitCode() after running", manager.exitCode(0), 255);
        manager.start(0, false);
        CHECK.due("exitCode() while it is active again", manager.exitCode(0), 255);
        manager.stop(0, false);
        CHECK.due("exitCode() after a stop", manager.exitCode(0), 255);
        manager.reset(0);
        CHECK.due("exitCode() after reset()", manager.exitCode(0), 255);
        manager.start(0, false);
        manager.kill(0, 0);
        CHECK.due("exitCode() after an exit with 0", manager.exitCode(0), 0);
        CHECK.due("exitCode() of a socket", manager.exitCode(1), 0);
        CHECK.due("exitCode() of a target", manager.exitCode(2), 0);
    }

    // ---- promises 33 and 34

    /** Promise 33: "Returns the time of the latest change of its state, 0 if there was none". */
    private static void since() {
        ServiceManager manager = Check.made("service a startup 5;target t");
        manager.advance(7);
        CHECK.due("since() without a change", manager.since(0), 0);
        manager.start(0, false);
        CHECK.due("since() of the first change", manager.since(0), 7);
        manager.advance(4);
        manager.start(0, false);
        CHECK.due("since() when a call changes no state", manager.since(0), 7);
        manager.advance(1);
        CHECK.due("since() when it is active", manager.since(0), 12);
        manager.advance(3);
        manager.start(1, false);
        CHECK.due("since() of two changes at once", manager.since(1), 15);
        manager.restart(1, false);
        CHECK.due("since() of a restart", manager.since(1), 15);
    }

    /** Promise 34: "Returns the time; NONE if nothing is due by itself": in each state, with and without something that is due. */
    private static void dueAt() {
        ServiceManager manager = inEachState();
        int[] due = {NONE, 9, NONE, 9, NONE, 10, NONE, NONE};
        for (int unit = 0; unit < 8; unit++) {
            CHECK.due("dueAt() in the state " + manager.stateOf(unit), manager.dueAt(unit), due[unit]);
        }
        manager = Check.made("service a run 9;service b idle 9;service c run 5 idle 9;service d run 9 idle 5;service e run 1000 idle 1000");
        startAll(manager);
        int[] active = {9, 9, 5, 5, 1000};
        for (int unit = 0; unit < 5; unit++) {
            CHECK.due("dueAt() of an active service", manager.dueAt(unit), active[unit]);
        }
    }

    /** Promise 34: at the least and the greatest startup, stopping and delay. */
    private static void dueAtTheEnds() {
        for (int ticks : new int[] {1, 100}) {
            ServiceManager manager = Check.made("service a restart always startup " + ticks + " stopping " + ticks + " delay " + ticks);
            manager.start(0, false);
            CHECK.due("dueAt() of a startup of " + ticks, manager.dueAt(0), ticks);
            manager.advance(ticks);
            CHECK.due("dueAt() when it is active", manager.dueAt(0), NONE);
            manager.kill(0, 0);
            CHECK.due("dueAt() of a delay of " + ticks, manager.dueAt(0), 2 * ticks);
            manager.advance(2 * ticks);
            manager.stop(0, false);
            CHECK.due("dueAt() of a stopping of " + ticks, manager.dueAt(0), 4 * ticks);
            manager.advance(ticks);
            CHECK.due("dueAt() when it is inactive", manager.dueAt(0), NONE);
        }
    }

    /** Promise 34: in the state 5 with a job nothing is due any more once the time of the restart has passed. */
    private static void dueAtAfterTheRestart() {
        ServiceManager manager = Check.made("service x startup 9;service a restart always delay 3;a after x");
        manager.start(1, false);
        manager.kill(1, 0);
        manager.start(0, false);
        manager.start(1, false);
        manager.advance(2);
        CHECK.due("dueAt() a tick before", manager.dueAt(1), 3);
        manager.advance(1);
        CHECK.due("the state", manager.stateOf(1), 5);
        CHECK.due("dueAt() then", manager.dueAt(1), NONE);
    }

    // ---- promises 35 to 37

    /** Promise 35: "Returns how often a unit has got a job to start by its policy": 0, 1 and more. */
    private static void restarts() {
        ServiceManager manager = Check.made("service a run 1 restart always limit 9 1000;target t");
        CHECK.due("restarts() at first", manager.restarts(0), 0);
        manager.start(0, false);
        CHECK.due("restarts() after a start", manager.restarts(0), 0);
        manager.restart(0, false);
        CHECK.due("restarts() after restart()", manager.restarts(0), 0);
        for (int time = 1; time <= 10; time++) {
            manager.advance(1);
            CHECK.due("restarts() at " + time, manager.restarts(0), time / 2);
        }
        manager.restart(1, false);
        CHECK.due("restarts() of a target", manager.restarts(1), 0);
    }

    /** Promise 36: "Returns the number since the configuration was read": reset() leaves it; it has no limit. */
    private static void begins() {
        ServiceManager manager = Check.made("service a limit 1 1;target t");
        CHECK.due("begins() at first", manager.begins(0), 0);
        for (int begin = 1; begin <= 100; begin++) {
            manager.reset(0);
            manager.start(0, false);
            manager.stop(0, false);
            CHECK.due("begins() of a service", manager.begins(0), begin);
        }
        manager.start(0, false);
        CHECK.due("begins() when the limit is hit", manager.begins(0), 100);
        Check.reload(manager, "service a");
        CHECK.due("begins() after load()", manager.begins(0), 0);
    }

    /** Promise 37: "(at a time greater than now - INTERVAL)"; "Returns 0 to 9; NONE if the unit is no service". */
    private static void recentBegins() {
        ServiceManager manager = Check.made("service a limit 9 5;socket s a 5;target t;service b limit 9 1");
        CHECK.due("recentBegins() at first", manager.recentBegins(0), 0);
        for (int begin = 1; begin <= 9; begin++) {
            manager.restart(0, false);
            CHECK.due("recentBegins() of " + begin, manager.recentBegins(0), begin);
        }
        manager.restart(0, false);
        CHECK.due("recentBegins() when the limit is hit", manager.recentBegins(0), 9);
        manager.start(3, false);
        CHECK.due("recentBegins() with the INTERVAL 1", manager.recentBegins(3), 1);
        manager.advance(1);
        CHECK.due("recentBegins() with the INTERVAL 1 a tick later", manager.recentBegins(3), 0);
        manager.advance(3);
        CHECK.due("recentBegins() at 4", manager.recentBegins(0), 9);
        manager.advance(1);
        CHECK.due("recentBegins() at 5", manager.recentBegins(0), 0);
        startAll(manager);
        CHECK.due("recentBegins() of a socket", manager.recentBegins(1), NONE);
        CHECK.due("recentBegins() of a target", manager.recentBegins(2), NONE);
    }

    // ---- promises 38 to 40

    /** Promise 38: "Returns the number; NONE if the unit is no socket": 0 to 50. */
    private static void queued() {
        ServiceManager manager = Check.made("service a startup 9;socket s a 50;target t");
        CHECK.due("queued() of an inactive socket", manager.queued(1), 0);
        manager.start(1, false);
        manager.start(2, false);
        CHECK.due("queued() without a connection", manager.queued(1), 0);
        manager.connect(1, 1);
        CHECK.due("queued() of one", manager.queued(1), 1);
        manager.connect(1, 48);
        CHECK.due("queued() of 49", manager.queued(1), 49);
        manager.connect(1, 1);
        CHECK.due("queued() of 50", manager.queued(1), 50);
        manager.connect(1, 1);
        CHECK.due("queued() of 51", manager.queued(1), 50);
        CHECK.due("queued() of a service", manager.queued(0), NONE);
        CHECK.due("queued() of a target", manager.queued(2), NONE);
    }

    /** Promise 39: "Returns the number; NONE if the unit is no socket": it has no limit, and a stop leaves it. */
    private static void accepted() {
        ServiceManager manager = Check.made("service a;socket s a 1;target t");
        startAll(manager);
        CHECK.due("accepted() at first", manager.accepted(1), 0);
        for (int call = 1; call <= 400; call++) {
            manager.connect(1, 100);
        }
        CHECK.due("accepted() of 40000", manager.accepted(1), 40000);
        manager.stop(1, false);
        CHECK.due("accepted() after a stop", manager.accepted(1), 40000);
        CHECK.due("accepted() of a service", manager.accepted(0), NONE);
        CHECK.due("accepted() of a target", manager.accepted(2), NONE);
    }

    /** Promise 40: "how many connections of a socket have been refused or dropped"; "NONE if the unit is no socket". */
    private static void lost() {
        ServiceManager manager = Check.made("service a startup 9;socket s a 1;target t");
        manager.start(1, false);
        CHECK.due("lost() at first", manager.lost(1), 0);
        manager.connect(1, 1);
        CHECK.due("lost() when one is queued", manager.lost(1), 0);
        manager.connect(1, 1);
        CHECK.due("lost() when one is refused", manager.lost(1), 1);
        for (int call = 1; call <= 400; call++) {
            manager.connect(1, 100);
        }
        CHECK.due("lost() of 40001", manager.lost(1), 40001);
        manager.stop(1, false);
        CHECK.due("lost() when one is dropped", manager.lost(1), 40002);
        CHECK.due("lost() of a service", manager.lost(0), NONE);
        CHECK.due("lost() of a target", manager.lost(2), NONE);
    }

    /** Promises 29 and 31 to 40: "if there is no such unit". */
    private static void noSuchUnit() {
        ServiceManager manager = Check.made("service a;socket s a 5;target t");
        for (int unit : new int[] {-1, 3, 16, Integer.MIN_VALUE, Integer.MAX_VALUE}) {
            CHECK.noSuchUnit("stateOf(" + unit + ")", manager, () -> manager.stateOf(unit));
            CHECK.noSuchUnit("resultOf(" + unit + ")", manager, () -> manager.resultOf(unit));
            CHECK.noSuchUnit("exitCode(" + unit + ")", manager, () -> manager.exitCode(unit));
            CHECK.noSuchUnit("since(" + unit + ")", manager, () -> manager.since(unit));
            CHECK.noSuchUnit("dueAt(" + unit + ")", manager, () -> manager.dueAt(unit));
            CHECK.noSuchUnit("restarts(" + unit + ")", manager, () -> manager.restarts(unit));
            CHECK.noSuchUnit("begins(" + unit + ")", manager, () -> manager.begins(unit));
            CHECK.noSuchUnit("recentBegins(" + unit + ")", manager, () -> manager.recentBegins(unit));
            CHECK.noSuchUnit("queued(" + unit + ")", manager, () -> manager.queued(unit));
            CHECK.noSuchUnit("accepted(" + unit + ")", manager, () -> manager.accepted(unit));
            CHECK.noSuchUnit("lost(" + unit + ")", manager, () -> manager.lost(unit));
        }
    }

    // ---- promises 41 and 42, and section 6: the log

    /** A log with this number of changes: the number k is that of the target k / 2 at the time k / 2. */
    private static ServiceManager logged(int changes) {
        ServiceManager manager = Check.made(Check.targets(16, ""));
        for (int pair = 0; pair < changes / 2; pair++) {
            int unit = pair % 16;
            if (pair / 16 % 2 == 0) {
                manager.start(unit, false);
            } else {
                manager.stop(unit, false);
            }
            manager.advance(1);
        }
        return manager;
    }

    /** Promise 41: "Returns 0 to 60". */
    private static void logSize() {
        CHECK.due("logSize() of a new object", new ServiceManager().logSize(), 0);
        for (int changes = 0; changes <= 200; changes += 2) {
            CHECK.due("logSize() of " + changes + " changes", logged(changes).logSize(), Math.min(60, changes));
        }
    }

    /** Section 6: "The log contains the latest 60 changes of the state of a unit, with time, unit and new state". */
    private static void latestSixty() {
        int[] states = {1, 2, 3, 0};
        for (int changes : new int[] {2, 58, 60, 62, 118, 120, 122, 178, 180, 182, 240, 1000}) {
            ServiceManager manager = logged(changes);
            int lost = Math.max(0, changes - 60);
            for (int index = 0; index < Math.min(60, changes); index++) {
                int change = lost + index;
                String what = "the change " + change + " of " + changes;
                CHECK.due(what + ": time", manager.logEntry(index, 0), change / 2);
                CHECK.due(what + ": unit", manager.logEntry(index, 1), change / 2 % 16);
                CHECK.due(what + ": state", manager.logEntry(index, 2), states[change / 32 % 2 * 2 + change % 2]);
            }
        }
    }

    /** Section 6: an odd number of changes: 59, 61 and 119, 121. */
    private static void oddNumbers() {
        for (int changes : new int[] {59, 61, 119, 121}) {
            ServiceManager manager = Check.made("target t;service a startup 9");
            manager.advance(1);
            for (int pair = 0; pair < changes / 2; pair++) {
                if (pair % 2 == 0) {
                    manager.start(0, false);
                } else {
                    manager.stop(0, false);
                }
            }
            manager.start(1, false);
            int size = Math.min(60, changes);
            CHECK.due("logSize() of " + changes, manager.logSize(), size);
            CHECK.due("the unit of the latest change of " + changes, manager.logEntry(size - 1, 1), 1);
            CHECK.due("the state of the latest change of " + changes, manager.logEntry(size - 1, 2), 1);
            CHECK.due("the unit of the one before", manager.logEntry(size - 2, 1), 0);
            int oldest = changes - size;
            CHECK.due("the state of the oldest change of " + changes, manager.logEntry(0, 2), (oldest + 1) % 4);
            CHECK.due("the time of the oldest change of " + changes, manager.logEntry(0, 0), 1);
        }
    }

    /** Section 6: "changes of the state": what changes no state is not in the log. */
    private static void noChanges() {
        ServiceManager manager = inEachState();
        int size = manager.logSize();
        manager.setMasked(2, true);
        manager.setMasked(2, false);
        manager.start(2, false);
        manager.stop(0, false);
        manager.reset(0);
        manager.reset(5);
        manager.connect(6, 3);
        manager.saveSnapshot(0);
        manager.plan(2, 3, 0);
        manager.weakest();
        manager.stateAfter(5, 100);
        CHECK.due("logSize()", manager.logSize(), size);
        manager.reset(4);
        CHECK.due("logSize() after a reset that changes a state", manager.logSize(), size + 1);
    }

    /** Promise 42: "index: the index of the entry, 0 for the oldest one"; "NONE if there is no such entry". */
    private static void noSuchEntry() {
        for (int changes : new int[] {0, 2, 60, 90}) {
            ServiceManager manager = logged(changes);
            int size = manager.logSize();
            for (int what = 0; what <= 2; what++) {
                for (int index : new int[] {-1, size, size + 1, 60, Integer.MIN_VALUE, Integer.MAX_VALUE}) {
                    CHECK.due("logEntry(" + index + ", " + what + ") of " + changes, manager.logEntry(index, what), NONE);
                }
                if (size > 0) {
                    CHECK.due("logEntry(0, " + what + ") of " + changes, manager.logEntry(0, what) == NONE, false);
                    CHECK.due("the last entry of " + changes, manager.logEntry(size - 1, what) == NONE, false);
                }
            }
        }
    }

    /** Promise 42: "what: 0 the time, 1 the unit, 2 the new state"; "Throws IllegalArgumentException if what is out of range". */
    private static void logEntryRange() {
        ServiceManager manager = Check.made(Check.targets(16, ""));
        for (int what : new int[] {-1, 3, Integer.MIN_VALUE, Integer.MAX_VALUE}) {
            CHECK.outOfRange("logEntry(0, " + what + ") of an empty log", manager, () -> manager.logEntry(0, what));
            CHECK.outOfRange("logEntry(-1, " + what + ")", manager, () -> manager.logEntry(-1, what));
        }
        manager.advance(3);
        manager.start(15, false);
        for (int what : new int[] {-1, 3, Integer.MIN_VALUE, Integer.MAX_VALUE}) {
            CHECK.outOfRange("logEntry(0, " + what + ")", manager, () -> manager.logEntry(0, what));
            CHECK.outOfRange("logEntry(60, " + what + ")", manager, () -> manager.logEntry(60, what));
        }
        CHECK.due("the time", manager.logEntry(1, 0), 3);
        CHECK.due("the unit", manager.logEntry(1, 1), 15);
        CHECK.due("the new state", manager.logEntry(1, 2), 2);
    }

    public static void main(String[] args) {
        stateOf();
        inState();
        inStateOfAll();
        resultOf();
        exitCode();
        since();
        dueAt();
        dueAtTheEnds();
        dueAtAfterTheRestart();
        restarts();
        begins();
        recentBegins();
        queued();
        accepted();
        lost();
        noSuchUnit();
        logSize();
        latestSixty();
        oddNumbers();
        noChanges();
        noSuchEntry();
        logEntryRange();
        CHECK.finish();
    }
}
