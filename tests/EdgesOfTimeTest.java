/** Section 5 and promises 23 to 28: a test for each sentence that names a boundary case. */
public final class EdgesOfTimeTest {

    private static final int NONE = ServiceManager.NONE;
    private static final int FULL = ServiceManager.FULL;
    private static final int WRONG_STATE = ServiceManager.WRONG_STATE;
    private static final Check CHECK = new Check();

    private static void stands(String what, ServiceManager manager, String states, String jobs) {
        CHECK.due(what + ": states", Check.states(manager), states);
        CHECK.due(what + ": jobs", Check.jobs(manager), jobs);
    }

    private static void startAll(ServiceManager manager) {
        for (int unit = 0; unit < manager.unitCount(); unit++) {
            manager.start(unit, false);
        }
    }

    // ---- section 5: ticks

    /** Section 5: "for each unit in the order of the numbers, what is due for it at this time happens: ...; then jobs are run". */
    private static void whatIsDueInATick() {
        ServiceManager manager = Check.made("service a restart always delay 9;service b startup 9;service c stopping 9;service d run 9 exit 4;"
            + "service e idle 9;target f;f after b");
        for (int unit = 0; unit < 5; unit++) {
            manager.start(unit, false);
        }
        manager.kill(0, 0);
        manager.stop(2, false);
        manager.start(5, false);
        CHECK.due("at first", Check.states(manager), "513220");
        int logged = manager.logSize();
        manager.advance(9);
        CHECK.due("all at once", Check.states(manager), "220402");
        String due = "9:1:2 9:2:0 9:3:4 9:4:0 9:0:1 9:0:2 9:5:1 9:5:2";
        CHECK.due("the restart and the job that waited come last", Check.log(manager).endsWith(due), true);
        CHECK.due("logSize()", manager.logSize(), logged + 8);
    }

    /** Section 5: "the time increases by 1": many ticks in one call are as many calls of one tick. */
    private static void tickByTick() {
        String text = "service a run 3 exit 1 restart failure delay 2 limit 3 40;service b startup 4 stopping 3 idle 7 restart always;socket s b 2;"
            + "service c fails 2 restart always delay 5;target t;t binds a;t after b";
        ServiceManager one = Check.made(text);
        ServiceManager many = Check.made(text);
        startAll(one);
        startAll(many);
        for (int call = 0; call < 10; call++) {
            one.advance(7);
            for (int tick = 0; tick < 7; tick++) {
                many.advance(1);
            }
            CHECK.due("everything at " + one.time(), Check.everything(one), Check.everything(many));
            one.start(4, true);
            many.start(4, true);
        }
    }

    /** Section 5: "A service that became active at time t exits at t + run": 1 and 1000 ticks, after its startup. */
    private static void exitsAfterRunning() {
        ServiceManager manager = Check.made("service a startup 7 run 1;service b startup 7 run 1000");
        startAll(manager);
        manager.advance(7);
        CHECK.due("at 7", Check.states(manager), "22");
        CHECK.due("dueAt(a)", manager.dueAt(0), 8);
        CHECK.due("dueAt(b)", manager.dueAt(1), 1007);
        manager.advance(1);
        CHECK.due("at 8", Check.states(manager), "02");
        manager.advance(998);
        CHECK.due("at 1006", Check.states(manager), "02");
        manager.advance(1);
        CHECK.due("at 1007", Check.states(manager), "00");
    }

    /** Section 5: "since it became active or the latest connection was accepted": 1 and 1000 ticks. */
    private static void goesWhenIdle() {
        ServiceManager manager = Check.made("service a idle 1;socket s a 1;service b idle 1000;socket r b 1");
        startAll(manager);
        CHECK.due("dueAt(a)", manager.dueAt(0), 1);
        CHECK.due("dueAt(b)", manager.dueAt(2), 1000);
        manager.advance(1);
        CHECK.due("at 1", Check.states(manager), "0222");
        manager.advance(998);
        CHECK.due("connect() a tick before", manager.connect(3, 1), 1);
        CHECK.due("dueAt(b) then", manager.dueAt(2), 1999);
        manager.advance(999);
        CHECK.due("at 1998", Check.states(manager), "0222");
        manager.advance(1);
        CHECK.due("at 1999", Check.states(manager), "0202");
    }

    /** Section 5: idle: "the latest connection was accepted": one that was queued counts when the service becomes active. */
    private static void idleAfterQueuedConnection() {
        ServiceManager manager = Check.made("service a startup 3 idle 5;socket s a 1");
        manager.start(1, false);
        manager.connect(1, 2);
        manager.advance(3);
        CHECK.due("dueAt()", manager.dueAt(0), 8);
        manager.advance(4);
        CHECK.due("at 7", manager.stateOf(0), 2);
        manager.advance(1);
        CHECK.due("at 8", manager.stateOf(0), 0);
    }

    /** Section 5: when idle, "it becomes inactive with the result 0, whatever the policy is". */
    private static void idleWhateverThePolicyIs() {
        for (String policy : new String[] {"never", "failure", "always"}) {
            ServiceManager manager = Check.made("service a idle 5 exit 9 restart " + policy);
            manager.start(0, false);
            manager.kill(0, 3);
            manager.start(0, false);
            CHECK.due("the result before", manager.resultOf(0), 1);
            manager.advance(5);
            CHECK.due(policy + ": the state", manager.stateOf(0), 0);
            CHECK.due(policy + ": the result", manager.resultOf(0), 0);
            CHECK.due(policy + ": the exit code stays", manager.exitCode(0), 3);
            manager.advance(200);
            CHECK.due(policy + ": it is not started again", manager.stateOf(0), 0);
        }
    }

    /** Section 5: when idle, "jobs that it has, and units that are bound to it, are treated as at an exit". */
    private static void jobsWhenIdle() {
        for (int type = 1; type <= 3; type++) {
            ServiceManager manager = Check.made("service x stopping 50;service a idle 5;x after a;target b;b binds a;x after b");
            manager.start(1, false);
            manager.start(0, false);
            manager.stop(0, false);
            if (type == 3) {
                manager.restart(1, false);
            } else {
                manager.stop(1, false);
            }
            if (type == 1) {
                manager.start(1, true);
            }
            CHECK.due("the job that waits", manager.jobOf(1), type);
            manager.advance(5);
            String[] jobs = {"2*/0 1/4 0/-1", "2*/0 0/0 0/-1", "2*/0 1/0 0/-1"};
            stands("the job " + type, manager, "300", jobs[type - 1]);
        }
        ServiceManager manager = Check.made("service a idle 5;target b;target c;b binds a;c requires a");
        startAll(manager);
        manager.advance(5);
        CHECK.due("a unit that is bound is stopped, one that requires it is not", Check.states(manager), "002");
    }

    /** Section 5: "If both are due at the same time, it exits". */
    private static void bothAreDue() {
        ServiceManager manager = Check.made("service a run 5 idle 5 exit 6 restart failure;service b run 6 idle 5 exit 6;service c run 5 idle 6 exit 6");
        startAll(manager);
        manager.advance(5);
        CHECK.due("the states", Check.states(manager), "504");
        CHECK.due("exitCode(a)", manager.exitCode(0), 6);
        CHECK.due("exitCode(b)", manager.exitCode(1), 0);
        CHECK.due("exitCode(c)", manager.exitCode(2), 6);
        manager = Check.made("service a run 5 idle 3 exit 6;socket s a 1");
        startAll(manager);
        manager.advance(2);
        manager.connect(1, 1);
        CHECK.due("dueAt() of both", manager.dueAt(0), 5);
        manager.advance(3);
        CHECK.due("it exits", manager.exitCode(0), 6);
    }

    // ---- section 5: connections

    /** Section 5: "if its service is active, the connection is accepted at once": as many as there are, whatever BACKLOG is. */
    private static void acceptedAtOnce() {
        ServiceManager manager = Check.made("service a;socket s a 1");
        startAll(manager);
        CHECK.due("connect() of 100", manager.connect(1, 100), 100);
        CHECK.due("accepted()", manager.accepted(1), 100);
        CHECK.due("queued()", manager.queued(1), 0);
        CHECK.due("lost()", manager.lost(1), 0);
    }

    /** Section 5: "if BACKLOG connections are queued at the socket, it is refused; else it is queued". */
    private static void refusedOrQueued() {
        ServiceManager manager = Check.made("service a startup 9;socket s a 2;socket r a 50");
        manager.start(1, false);
        manager.start(2, false);
        CHECK.due("the first one", manager.connect(1, 1), 1);
        CHECK.due("the second one", manager.connect(1, 1), 1);
        CHECK.due("queued() when it is full", manager.queued(1), 2);
        CHECK.due("the third one", manager.connect(1, 1), 0);
        CHECK.due("queued() then", manager.queued(1), 2);
        CHECK.due("lost() then", manager.lost(1), 1);
        CHECK.due("connect() of 49 to the other socket", manager.connect(2, 49), 49);
        CHECK.due("connect() of 2 to the other socket", manager.connect(2, 2), 1);
        CHECK.due("connect() of 100 to a full socket", manager.connect(2, 100), 0);
        CHECK.due("lost() of the other socket", manager.lost(2), 101);
    }

    /** Section 5: "if the service has no job, is not masked and is in the state 0 or 4, it is started". */
    private static void startsTheService() {
        ServiceManager manager = Check.made("service a run 5 exit 1;socket s a 9");
        manager.start(1, false);
        CHECK.due("connect() in the state 0", manager.connect(1, 1), 1);
        CHECK.due("the state then", manager.stateOf(0), 2);
        manager.advance(5);
        CHECK.due("connect() in the state 4", manager.connect(1, 1), 1);
        CHECK.due("the state then", manager.stateOf(0), 2);
        CHECK.due("accepted()", manager.accepted(1), 2);
        CHECK.due("begins()", manager.begins(0), 2);
    }

    /** Section 5: "is in the state 0 or 4": not in 3 and 5, nor in 1. */
    private static void doesNotStartInOtherStates() {
        ServiceManager manager = Check.made("service a restart always delay 9 stopping 9 startup 9;socket s a 9");
        manager.start(1, false);
        manager.start(0, false);
        manager.connect(1, 1);
        CHECK.due("begins() in the state 1", manager.begins(0), 1);
        manager.advance(9);
        manager.kill(0, 0);
        manager.connect(1, 1);
        stands("in the state 5", manager, "52", "0/0 0/0");
        CHECK.due("queued() in the state 5", manager.queued(1), 1);
        manager.start(0, false);
        manager.advance(9);
        CHECK.due("accepted()", manager.accepted(1), 2);
        manager.stop(0, false);
        manager.connect(1, 1);
        stands("in the state 3", manager, "32", "2*/0 0/0");
        manager.start(0, true);
        manager.cancel(0);
        manager.connect(1, 1);
        stands("in the state 3 without a job", manager, "32", "0/4 0/0");
        CHECK.due("queued() in the state 3", manager.queued(1), 2);
    }

    /** Section 5: "if the service has no job": one that waits is left alone. */
    private static void doesNotStartWithJob() {
        ServiceManager manager = Check.made("service x startup 9;service a;socket s a 9;a after x");
        manager.start(2, false);
        manager.start(0, false);
        manager.restart(1, false);
        CHECK.due("connect()", manager.connect(2, 2), 2);
        stands("the restart waits still", manager, "102", "1*/-1 3/-1 0/0");
        manager.advance(9);
        CHECK.due("accepted()", manager.accepted(2), 2);
    }

    /** Section 5: "is not masked": the connection is queued, and a later one starts the service. */
    private static void doesNotStartWhenMasked() {
        ServiceManager manager = Check.made("service a;socket s a 2");
        manager.start(1, false);
        manager.setMasked(0, true);
        CHECK.due("connect() when it is masked", manager.connect(1, 1), 1);
        CHECK.due("queued()", manager.queued(1), 1);
        CHECK.due("stateOf()", manager.stateOf(0), 0);
        manager.setMasked(0, false);
        CHECK.due("queued() when it is unmasked", manager.queued(1), 1);
        CHECK.due("connect() then", manager.connect(1, 1), 1);
        CHECK.due("accepted()", manager.accepted(1), 2);
    }

    /** Section 5: a full backlog starts nothing: the connection is refused before the service is looked at. */
    private static void refusedStartsNothing() {
        ServiceManager manager = Check.made("service a;socket s a 1");
        manager.start(1, false);
        manager.setMasked(0, true);
        manager.connect(1, 1);
        manager.setMasked(0, false);
        CHECK.due("connect() to a full socket", manager.connect(1, 1), 0);
        CHECK.due("stateOf()", manager.stateOf(0), 0);
        CHECK.due("lost()", manager.lost(1), 1);
    }

    /** Section 5: "by a transaction that does not replace (if that fails, the connection stays queued)": however it fails. */
    private static void startFails() {
        String[] needs = {";a requires b;a conflicts b", ";a requires b;a after b;b after a", ";a requires b", ";a requires m"};
        for (String need : needs) {
            ServiceManager manager = Check.made("service a;socket s a 3;service b stopping 50;target m" + need);
            manager.start(2, false);
            manager.stop(2, false);
            manager.start(1, false);
            manager.setMasked(3, true);
            CHECK.due("connect() with" + need, manager.connect(1, 2), 2);
            CHECK.due("queued() with" + need, manager.queued(1), 2);
            stands("with" + need, manager, "0230", "0/-1 0/0 2*/0 0/-1");
        }
    }

    /** Section 5: "When a service becomes active, all connections that are queued at its sockets are accepted". */
    private static void allSockets() {
        ServiceManager manager = Check.made("service a startup 5;socket s a 50;socket r a 1;service b startup 9;socket q b 3");
        for (int unit : new int[] {1, 2, 4}) {
            manager.start(unit, false);
        }
        manager.connect(1, 100);
        manager.connect(2, 100);
        manager.connect(4, 100);
        manager.advance(5);
        int[] accepted = {50, 1, 0};
        int[] queued = {0, 0, 3};
        int[] sockets = {1, 2, 4};
        for (int index = 0; index < 3; index++) {
            CHECK.due("accepted(" + sockets[index] + ")", manager.accepted(sockets[index]), accepted[index]);
            CHECK.due("queued(" + sockets[index] + ")", manager.queued(sockets[index]), queued[index]);
        }
    }

    /** Section 5: "When a socket is not active any more, its queued connections are dropped": at a stop, a restart and the limit. */
    private static void dropped() {
        ServiceManager manager = Check.made("service a startup 9 limit 1 99;socket s a 3;socket r a 3;socket q a 3");
        for (int unit = 1; unit < 4; unit++) {
            manager.start(unit, false);
            manager.connect(unit, 4);
        }
        manager.stop(1, false);
        manager.restart(2, false);
        CHECK.due("queued() after a stop", manager.queued(1), 0);
        CHECK.due("lost() after a stop", manager.lost(1), 4);
        CHECK.due("queued() after a restart", manager.queued(2), 0);
        CHECK.due("lost() after a restart", manager.lost(2), 4);
        CHECK.due("queued() of the third one", manager.queued(3), 3);
        manager.kill(0, 1);
        CHECK.due("queued() after an exit of the service", manager.queued(3), 3);
        manager.start(0, false);
        CHECK.due("queued() after the limit", manager.queued(3), 0);
        CHECK.due("lost() after the limit", manager.lost(3), 4);
        CHECK.due("accepted()", manager.accepted(3), 0);
    }

    /** Section 5: "Every call that changes jobs or units (start, stop, restart, cancel, connect, kill, reset) ends with running jobs". */
    private static void everyCallRunsJobs() {
        String text = "service a startup 9;target b;b after a;socket s a 5";
        ServiceManager manager = Check.made(text);
        manager.start(1, false);
        CHECK.due("start() runs its job", manager.stateOf(1), 2);
        manager.restart(1, false);
        CHECK.due("restart() runs its job", manager.begins(1), 2);
        manager.stop(1, false);
        CHECK.due("stop() runs its job", manager.stateOf(1), 0);
        manager.start(2, false);
        manager.connect(2, 1);
        CHECK.due("connect() runs the job of the service", manager.stateOf(0), 1);
        manager.start(1, false);
        CHECK.due("b waits for a", manager.stateOf(1), 0);
        manager.kill(0, 0);
        CHECK.due("kill() runs the job of b", manager.stateOf(1), 2);
        manager = Check.made(text);
        manager.start(0, false);
        manager.start(1, false);
        manager.stop(0, true);
        CHECK.due("stop() runs the job of b", manager.stateOf(1), 2);
        manager = Check.made(text + ";target x;a after x;x after b");
        manager.start(0, false);
        manager.start(1, false);
        manager.start(3, false);
        CHECK.due("x waits for b", Check.states(manager), "1000");
        CHECK.due("cancel() of b", manager.cancel(1), 1);
        CHECK.due("cancel() runs the job of x", manager.stateOf(3), 2);
        manager.stop(0, true);
        CHECK.due("reset() leaves a queue in which nothing can run", manager.reset(0) ? manager.queueLength() : NONE, 0);
    }

    /** Section 5: "Every call that changes jobs or units (..., connect, ...) ends with running jobs": once, after all connections. */
    private static void jobsRunAtTheEnd() {
        ServiceManager manager = Check.made("service a;socket s a 2");
        manager.start(1, false);
        CHECK.due("connect() of 5", manager.connect(1, 5), 2);
        CHECK.due("accepted()", manager.accepted(1), 2);
        CHECK.due("lost()", manager.lost(1), 3);
        CHECK.due("connect() of 5 to what is active", manager.connect(1, 5), 5);
    }

    // ---- promises 23 and 24

    /** Promise 23: "ticks: 1 to 1000"; "Throws IllegalArgumentException if ticks is out of range". */
    private static void advanceRange() {
        ServiceManager manager = Check.made("service a run 1 restart always");
        manager.start(0, false);
        CHECK.due("advance(1)", manager.advance(1), 1);
        CHECK.due("advance(1000)", manager.advance(1000), 1001);
        for (int ticks : new int[] {0, -1, 1001, Integer.MIN_VALUE, Integer.MAX_VALUE}) {
            CHECK.outOfRange("advance(" + ticks + ")", manager, () -> manager.advance(ticks));
        }
        CHECK.due("advance(999)", manager.advance(999), 2000);
    }

    /** Promises 23 and 24: "FULL if it would be greater than 1000000"; time(): "Returns 0 to 1000000". */
    private static void endOfTime() {
        ServiceManager manager = Check.made("service a startup 100");
        CHECK.due("time() at first", manager.time(), 0);
        Check.letPass(manager, 999000);
        CHECK.due("time() at 999000", manager.time(), 999000);
        CHECK.due("advance(999)", manager.advance(999), 999999);
        manager.start(0, false);
        CHECK.refused("advance(2) at 999999", manager, () -> manager.advance(2), FULL);
        CHECK.refused("advance(1000) at 999999", manager, () -> manager.advance(1000), FULL);
        CHECK.due("advance(1) at 999999", manager.advance(1), 1000000);
        CHECK.refused("advance(1) at the end", manager, () -> manager.advance(1), FULL);
        CHECK.refused("advance(1000) at the end", manager, () -> manager.advance(1000), FULL);
        CHECK.outOfRange("advance(0) at the end", manager, () -> manager.advance(0));
        CHECK.outOfRange("advance(1001) at the end", manager, () -> manager.advance(1001));
        CHECK.due("time() at the end", manager.time(), 1000000);
        CHECK.due("what is due after the end", manager.dueAt(0), 1000099);
        Check.reload(manager, "target a");
        CHECK.due("advance() after load()", manager.advance(1), 1);
    }

    /** Promise 23: advance(1000) at 999000 comes to the very end. */
    private static void lastThousand() {
        ServiceManager manager = new ServiceManager();
        Check.letPass(manager, 999001);
        CHECK.refused("advance(1000) at 999001", manager, () -> manager.advance(1000), FULL);
        Check.reload(manager, "target a");
        Check.letPass(manager, 999000);
        CHECK.due("advance(1000) at 999000", manager.advance(1000), 1000000);
    }

    // ---- promise 25

    /** Promise 25: "count: 1 to 100"; "Throws IllegalArgumentException if count is out of range". */
    private static void connectRange() {
        ServiceManager manager = Check.made("service a;socket s a 1");
        for (int unit = 0; unit < 2; unit++) {
            int one = unit;
            for (int count : new int[] {0, -1, 101, Integer.MIN_VALUE, Integer.MAX_VALUE}) {
                CHECK.outOfRange("connect(" + unit + ", " + count + ") before WRONG_STATE", manager, () -> manager.connect(one, count));
                CHECK.noSuchUnit("connect(2, " + count + ")", manager, () -> manager.connect(2, count));
                CHECK.noSuchUnit("connect(-1, " + count + ")", manager, () -> manager.connect(-1, count));
            }
        }
        startAll(manager);
        CHECK.outOfRange("connect(1, 0) to an active socket", manager, () -> manager.connect(1, 0));
        CHECK.outOfRange("connect(1, 101) to an active socket", manager, () -> manager.connect(1, 101));
        CHECK.due("connect(1, 1)", manager.connect(1, 1), 1);
        CHECK.due("connect(1, 100)", manager.connect(1, 100), 100);
    }

    /** Promise 25: "WRONG_STATE if the unit is no active socket": a service, a target, an inactive socket, a failed one. */
    private static void connectInWrongState() {
        ServiceManager manager = Check.made("service a limit 1 99;socket s a 5;target t");
        CHECK.refused("connect() to an inactive service", manager, () -> manager.connect(0, 1), WRONG_STATE);
        CHECK.refused("connect() to an inactive socket", manager, () -> manager.connect(1, 1), WRONG_STATE);
        CHECK.refused("connect() to an inactive target", manager, () -> manager.connect(2, 1), WRONG_STATE);
        startAll(manager);
        CHECK.refused("connect() to an active service", manager, () -> manager.connect(0, 1), WRONG_STATE);
        CHECK.refused("connect() to an active target", manager, () -> manager.connect(2, 1), WRONG_STATE);
        manager.restart(0, false);
        CHECK.due("the state of the socket", manager.stateOf(1), 4);
        CHECK.refused("connect() to a failed socket", manager, () -> manager.connect(1, 1), WRONG_STATE);
        manager.start(1, false);
        manager.stop(1, false);
        CHECK.refused("connect() to a stopped socket", manager, () -> manager.connect(1, 100), WRONG_STATE);
    }

    // ---- promise 26

    /** Promise 26: "code: the exit code, 0 to 255"; "Throws IllegalArgumentException if code is out of range". */
    private static void killRange() {
        ServiceManager manager = Check.made("service a;target t");
        for (int code : new int[] {-1, 256, Integer.MIN_VALUE, Integer.MAX_VALUE}) {
            CHECK.outOfRange("kill(0, " + code + ") before WRONG_STATE", manager, () -> manager.kill(0, code));
            CHECK.outOfRange("kill(1, " + code + ") before WRONG_STATE", manager, () -> manager.kill(1, code));
            CHECK.noSuchUnit("kill(2, " + code + ")", manager, () -> manager.kill(2, code));
            CHECK.noSuchUnit("kill(-1, " + code + ")", manager, () -> manager.kill(-1, code));
        }
        manager.start(0, false);
        CHECK.outOfRange("kill(0, -1) of an active service", manager, () -> manager.kill(0, -1));
        CHECK.outOfRange("kill(0, 256) of an active service", manager, () -> manager.kill(0, 256));
        CHECK.due("kill(0, 255)", manager.kill(0, 255), 4);
        CHECK.due("exitCode()", manager.exitCode(0), 255);
        manager.start(0, false);
        CHECK.due("kill(0, 0)", manager.kill(0, 0), 0);
    }

    /** Promise 26: "WRONG_STATE if it is no service, or not in the state 1 or 2": in each state, and of other units. */
    private static void killInEachState() {
        ServiceManager manager = Check.made("service a;service b startup 9;service c;service d stopping 9;service e run 1 exit 1;"
            + "service f run 1 restart always delay 9;socket s c 5;target t");
        for (int unit = 1; unit < 8; unit++) {
            manager.start(unit, false);
        }
        manager.stop(3, false);
        manager.advance(1);
        CHECK.due("one in each state", Check.states(manager), "01234522");
        for (int unit : new int[] {0, 3, 4, 5, 6, 7}) {
            CHECK.refused("kill(" + unit + ")", manager, () -> manager.kill(unit, 1), WRONG_STATE);
        }
        CHECK.due("kill() in the state 1", manager.kill(1, 1), 4);
        CHECK.due("kill() in the state 2", manager.kill(2, 1), 4);
    }

    /** Promise 26: "Returns the state of the unit afterwards": after running jobs. */
    private static void killAnswersState() {
        ServiceManager manager = Check.made("service a restart always;service b restart failure");
        manager.start(0, false);
        manager.start(1, false);
        CHECK.due("kill() with the policy always", manager.kill(0, 0), 5);
        CHECK.due("kill() with the policy failure and 0", manager.kill(1, 0), 0);
        manager = Check.made("service a startup 9;target b;b after a");
        manager.start(0, false);
        manager.start(1, false);
        CHECK.due("kill() of what b waits for", manager.kill(0, 0), 0);
        CHECK.due("b has started", manager.stateOf(1), 2);
    }

    /** Promise 26: an activating unit: "its job to start fails before that, and units that are bound to it are not stopped". */
    private static void killOfWhatIsActivating() {
        ServiceManager manager = Check.made("service a startup 9 restart always;target b;target c;b binds a;c requires a;c after a");
        startAll(manager);
        stands("a is activating", manager, "120", "1*/-1 0/0 1/-1");
        CHECK.due("kill() with 0", manager.kill(0, 0), 5);
        stands("its start has failed, and c by it; b stays", manager, "520", "0/1 0/0 0/2");
        CHECK.due("resultOf()", manager.resultOf(0), 0);
    }

    // ---- promises 27 and 28

    /** Promise 27: "Returns true; false, and nothing changes, if the unit is in the state 1, 2 or 3": in each state. */
    private static void resetInEachState() {
        ServiceManager manager = Check.made("service a;service b startup 9;service c;service d stopping 9;service e run 1 exit 1;"
            + "service f run 1 exit 1 restart always delay 9");
        for (int unit = 1; unit < 6; unit++) {
            manager.start(unit, false);
        }
        manager.stop(3, false);
        manager.advance(1);
        CHECK.due("one in each state", Check.states(manager), "012345");
        for (int unit : new int[] {1, 2, 3}) {
            CHECK.refused("reset(" + unit + ")", manager, () -> manager.reset(unit) ? 1 : 0, 0);
        }
        for (int unit : new int[] {0, 4, 5}) {
            CHECK.due("reset(" + unit + ")", manager.reset(unit), true);
            CHECK.due("resultOf(" + unit + ")", manager.resultOf(unit), 0);
            CHECK.due("recentBegins(" + unit + ")", manager.recentBegins(unit), 0);
        }
        CHECK.due("the failed one is inactive, the others stay", Check.states(manager), "012305");
        CHECK.due("dueAt() of what waits for its restart", manager.dueAt(5), 10);
        CHECK.due("the exit code stays", manager.exitCode(4), 1);
        CHECK.due("begins() stays", manager.begins(4), 1);
    }

    /** Promise 27: "its activations and begins are forgotten (for fails and for the limit)". */
    private static void resetForgets() {
        ServiceManager manager = Check.made("service a fails 1 limit 2 99");
        manager.start(0, false);
        manager.start(0, false);
        manager.stop(0, false);
        CHECK.due("recentBegins()", manager.recentBegins(0), 2);
        manager.reset(0);
        CHECK.due("recentBegins() after reset()", manager.recentBegins(0), 0);
        manager.start(0, false);
        CHECK.due("it is no limit, but the first activation", manager.outcomeOf(0), 1);
        manager.start(0, false);
        CHECK.due("the second one", manager.outcomeOf(0), 0);
        manager.restart(0, false);
        CHECK.due("the limit", manager.outcomeOf(0), 3);
        CHECK.due("resultOf() after the limit", manager.resultOf(0), 3);
        CHECK.due("begins() counts all", manager.begins(0), 4);
        manager.reset(0);
        CHECK.due("resultOf() after reset()", manager.resultOf(0), 0);
    }

    /** Promise 27: sockets and targets can be reset, too. */
    private static void resetOfOthers() {
        ServiceManager manager = Check.made("service a limit 1 99;socket s a 5;target t");
        startAll(manager);
        CHECK.refused("reset() of an active socket", manager, () -> manager.reset(1) ? 1 : 0, 0);
        manager.restart(0, false);
        CHECK.due("the socket has failed", manager.resultOf(1), 3);
        CHECK.due("reset() of it", manager.reset(1), true);
        CHECK.due("its state", manager.stateOf(1), 0);
        CHECK.due("its result", manager.resultOf(1), 0);
        manager.stop(2, false);
        CHECK.due("reset() of an inactive target", manager.reset(2), true);
    }

    /** Promise 28: "Masks a unit or unmasks it. Jobs in the queue stay"; "Returns whether it was masked before". */
    private static void masks() {
        ServiceManager manager = Check.made(Check.targets(15, ";service z startup 9"));
        for (int unit : new int[] {0, 15}) {
            CHECK.due("setMasked(true)", manager.setMasked(unit, true), false);
            CHECK.due("setMasked(true) again", manager.setMasked(unit, true), true);
            CHECK.due("setMasked(false)", manager.setMasked(unit, false), true);
            CHECK.due("setMasked(false) again", manager.setMasked(unit, false), false);
        }
        manager.start(15, false);
        manager.setMasked(15, true);
        CHECK.due("its job stays", manager.isRunning(15), true);
        manager.advance(9);
        CHECK.due("it becomes active", manager.stateOf(15), 2);
        CHECK.due("the other ones are not masked", manager.setMasked(14, false), false);
    }

    /** Promises 27 and 28: "if there is no such unit". */
    private static void noSuchUnit() {
        ServiceManager manager = Check.made("target a;target b");
        for (int unit : new int[] {-1, 2, 16, 31, 32, Integer.MIN_VALUE, Integer.MAX_VALUE}) {
            CHECK.noSuchUnit("reset(" + unit + ")", manager, () -> manager.reset(unit) ? 1 : 0);
            CHECK.noSuchUnit("setMasked(" + unit + ", true)", manager, () -> manager.setMasked(unit, true) ? 1 : 0);
            CHECK.noSuchUnit("setMasked(" + unit + ", false)", manager, () -> manager.setMasked(unit, false) ? 1 : 0);
        }
    }

    private static void ticks() {
        whatIsDueInATick();
        tickByTick();
        exitsAfterRunning();
        goesWhenIdle();
        idleAfterQueuedConnection();
        idleWhateverThePolicyIs();
        jobsWhenIdle();
        bothAreDue();
    }

    private static void connections() {
        acceptedAtOnce();
        refusedOrQueued();
        startsTheService();
        doesNotStartInOtherStates();
        doesNotStartWithJob();
        doesNotStartWhenMasked();
        refusedStartsNothing();
        startFails();
        allSockets();
        dropped();
        everyCallRunsJobs();
        jobsRunAtTheEnd();
    }

    public static void main(String[] args) {
        ticks();
        connections();
        advanceRange();
        endOfTime();
        lastThousand();
        connectRange();
        connectInWrongState();
        killRange();
        killInEachState();
        killAnswersState();
        killOfWhatIsActivating();
        resetInEachState();
        resetForgets();
        resetOfOthers();
        masks();
        noSuchUnit();
        CHECK.finish();
    }
}
