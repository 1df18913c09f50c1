/** Promises 23 to 28, and sections 4 and 5: time, exits, policies, limits, idling and connections. */
public final class TimeTest {

    private static final int NONE = ServiceManager.NONE;
    private static final int WRONG_STATE = ServiceManager.WRONG_STATE;
    private static final Check CHECK = new Check();

    private static void stands(String what, ServiceManager manager, int time, String states) {
        CHECK.due(what + ": time()", manager.time(), time);
        CHECK.due(what + ": states", Check.states(manager), states);
    }

    /** State, result, exit code, since and dueAt of a unit. */
    private static void unit(String what, ServiceManager manager, int unit, int... due) {
        int[] got = {manager.stateOf(unit), manager.resultOf(unit), manager.exitCode(unit), manager.since(unit), manager.dueAt(unit)};
        String[] names = {"state", "result", "exit code", "since", "dueAt"};
        for (int index = 0; index < names.length; index++) {
            CHECK.due(what + ": " + names[index], got[index], due[index]);
        }
    }

    private static void advancing() {
        ServiceManager manager = Check.made("service a startup 100 stopping 100");
        CHECK.due("time() at first", manager.time(), 0);
        CHECK.due("advance(1)", manager.advance(1), 1);
        manager.start(0, false);
        unit("starting", manager, 0, 1, 0, 0, 1, 101);
        CHECK.due("advance(99)", manager.advance(99), 100);
        unit("still starting", manager, 0, 1, 0, 0, 1, 101);
        CHECK.due("advance(1)", manager.advance(1), 101);
        unit("started", manager, 0, 2, 0, 0, 101, NONE);
        manager.stop(0, false);
        unit("stopping", manager, 0, 3, 0, 0, 101, 201);
        CHECK.due("advance(1000)", manager.advance(1000), 1101);
        unit("stopped", manager, 0, 0, 0, 0, 201, NONE);
        for (int thousand = 0; thousand < 998; thousand++) {
            manager.advance(1000);
        }
        CHECK.due("time()", manager.time(), 999101);
        CHECK.due("advance() past the end of time", manager.advance(900), ServiceManager.FULL);
        CHECK.due("time() then", manager.time(), 999101);
        CHECK.due("advance() to the end of time", manager.advance(899), 1000000);
        CHECK.due("advance(1) at the end of time", manager.advance(1), ServiceManager.FULL);
        CHECK.due("time() at the end", manager.time(), 1000000);
        manager.start(0, false);
        unit("due after the end of time", manager, 0, 1, 0, 0, 1000000, 1000100);
        CHECK.due("ticksUntilActive() after the end of time", manager.ticksUntilActive(0), 100);
        Check.reload(manager, "target a");
        CHECK.due("time() of another text", manager.time(), 0);
    }

    private static void exits() {
        ServiceManager manager = Check.made("service a run 3;service b run 3 exit 7;service c run 3 exit 255 restart failure delay 2;"
            + "service d run 3 restart failure;service e run 3 restart always delay 100;service f startup 1 run 3");
        for (int unit = 0; unit < 6; unit++) {
            manager.start(unit, false);
        }
        CHECK.due("dueAt() of what runs", manager.dueAt(0), 3);
        manager.advance(2);
        stands("before they exit", manager, 2, "222222");
        manager.advance(1);
        stands("after", manager, 3, "045052");
        unit("a", manager, 0, 0, 0, 0, 3, NONE);
        unit("b", manager, 1, 4, 1, 7, 3, NONE);
        unit("c", manager, 2, 5, 1, 255, 3, 5);
        unit("d", manager, 3, 0, 0, 0, 3, NONE);
        unit("e", manager, 4, 5, 0, 0, 3, 103);
        unit("f", manager, 5, 2, 0, 0, 1, 4);
        manager.setMasked(2, true);
        manager.advance(2);
        stands("c is started again, though masked", manager, 5, "042050");
        CHECK.due("restarts(c)", manager.restarts(2), 1);
        CHECK.due("begins(c)", manager.begins(2), 2);
        unit("c then", manager, 2, 2, 1, 255, 5, 8);
        manager.start(1, false);
        unit("b started again", manager, 1, 2, 1, 7, 5, 8);
        manager.stop(1, false);
        unit("b stopped", manager, 1, 0, 0, 7, 5, NONE);
        manager.start(4, false);
        CHECK.due("restarts(e) by a call", manager.restarts(4), 0);
        CHECK.due("state of e", manager.stateOf(4), 2);
    }

    private static void failing() {
        ServiceManager manager = Check.made("service a fails 2 startup 1;service b fails 1 restart failure;service c fails 9 restart always delay 1 limit 3 100");
        manager.start(0, false);
        manager.start(1, false);
        unit("b fails at once", manager, 1, 5, 1, 1, 0, 1);
        CHECK.due("outcomeOf(b)", manager.outcomeOf(1), 1);
        manager.advance(1);
        unit("a fails", manager, 0, 4, 1, 1, 1, NONE);
        CHECK.due("outcomeOf(a)", manager.outcomeOf(0), 1);
        unit("b is active", manager, 1, 2, 1, 1, 1, NONE);
        CHECK.due("outcomeOf(b) then", manager.outcomeOf(1), 0);
        manager.start(0, false);
        manager.advance(1);
        unit("a fails again", manager, 0, 4, 1, 1, 2, NONE);
        manager.start(0, false);
        manager.advance(1);
        unit("a is active", manager, 0, 2, 1, 1, 3, NONE);
        manager.stop(0, false);
        CHECK.due("reset(a)", manager.reset(0), true);
        manager.start(0, false);
        manager.advance(1);
        CHECK.due("a fails anew after reset()", manager.stateOf(0), 4);
        CHECK.due("begins(a)", manager.begins(0), 4);
        manager.start(2, false);
        CHECK.due("recentBegins(c)", manager.recentBegins(2), 1);
        manager.advance(1);
        CHECK.due("recentBegins(c) a tick later", manager.recentBegins(2), 2);
        manager.advance(50);
        unit("c hits the limit", manager, 2, 4, 3, 1, 7, NONE);
        CHECK.due("outcomeOf(c)", manager.outcomeOf(2), 3);
        CHECK.due("begins(c)", manager.begins(2), 3);
        CHECK.due("restarts(c)", manager.restarts(2), 3);
    }

    private static void jobsAtAnExit() {
        ServiceManager manager = Check.made("service a startup 9;service b run 3 exit 2 restart always;service c run 3 restart always;"
            + "service d run 3 exit 4 restart always;service e run 3 restart always;b before a;c before a;d after a;e after a");
        for (int unit = 4; unit >= 0; unit--) {
            manager.start(unit, false);
        }
        manager.stop(1, false);
        manager.restart(2, false);
        manager.restart(3, false);
        manager.restart(4, false);
        stands("b and c are before a, and d and e wait for it", manager, 0, "10222");
        CHECK.due("jobOf(d)", manager.jobOf(3), 3);
        manager.advance(3);
        unit("c waits for its restart", manager, 2, 5, 0, 0, 3, 4);
        unit("d fails, whatever its policy is", manager, 3, 4, 1, 4, 3, NONE);
        unit("e is inactive, whatever its policy is", manager, 4, 0, 0, 0, 3, NONE);
        CHECK.due("jobOf(d) then", manager.jobOf(3), 1);
        CHECK.due("isRunning(d)", manager.isRunning(3), false);
        CHECK.due("outcomeOf(d)", manager.outcomeOf(3), 0);
        manager.advance(6);
        CHECK.due("d is active again", manager.stateOf(3), 2);
        CHECK.due("e is active again", manager.stateOf(4), 2);
        CHECK.due("restarts(d)", manager.restarts(3), 0);
    }

    private static void stopsAtAnExit() {
        ServiceManager manager = Check.made("service a run 3 exit 2 restart always;service b run 3 restart always;service c stopping 9;c after a;c after b");
        for (int unit = 0; unit < 3; unit++) {
            manager.start(unit, false);
        }
        manager.stop(2, false);
        manager.stop(0, false);
        manager.stop(1, false);
        stands("two stops wait", manager, 0, "223");
        manager.advance(3);
        unit("a", manager, 0, 4, 1, 2, 3, NONE);
        unit("b", manager, 1, 0, 0, 0, 3, NONE);
        CHECK.due("outcomeOf(a)", manager.outcomeOf(0), 0);
        CHECK.due("outcomeOf(b)", manager.outcomeOf(1), 0);
        CHECK.due("queueLength()", manager.queueLength(), 1);
    }

    private static void boundUnits() {
        ServiceManager manager = Check.made("service a run 3;service b stopping 2;service c startup 9;service d;service e;service f;"
            + "b binds a;c binds a;d requires a;e binds b;f partof b");
        for (int unit = 1; unit < 6; unit++) {
            manager.start(unit, false);
        }
        stands("at first", manager, 0, "221222");
        manager.advance(3);
        stands("bound units stop, and what follows them", manager, 3, "030200");
        CHECK.due("isSound()", manager.isSound(), false);
        manager.advance(2);
        stands("two ticks later", manager, 5, "000200");
        manager.start(1, false);
        CHECK.due("kill(a)", manager.kill(0, 0), 0);
        stands("after kill()", manager, 5, "030200");
    }

    private static void boundStopsMayFail() {
        // b and c are ordered in a circle and c follows b: the stop of b fails, that of c does not
        ServiceManager manager = Check.made("service a;target b;target c;b binds a;c requires b;b after c;c after b");
        manager.start(1, false);
        manager.start(2, false);
        stands("all are active", manager, 0, "222");
        CHECK.due("kill(a)", manager.kill(0, 1), 4);
        stands("the transaction that would stop b has failed", manager, 0, "422");
    }

    private static void restartWithAJob() {
        ServiceManager manager = Check.made("service a run 2 exit 1 restart failure delay 3;service b startup 9;a after b");
        manager.start(0, false);
        manager.advance(2);
        manager.start(1, false);
        manager.start(0, false);
        CHECK.due("dueAt(a)", manager.dueAt(0), 5);
        manager.advance(3);
        unit("a has a job already when its restart is due", manager, 0, 5, 1, 1, 2, NONE);
        CHECK.due("restarts(a)", manager.restarts(0), 0);
        manager.advance(6);
        CHECK.due("a is active", manager.stateOf(0), 2);
        CHECK.due("since(a)", manager.since(0), 11);
    }

    private static void idling() {
        ServiceManager manager = Check.made("service a idle 3 restart always exit 9;socket s a 5;service b run 5 idle 5 exit 1;socket r b 1;"
            + "service c;c binds a");
        for (int unit = 0; unit < 5; unit++) {
            manager.start(unit, false);
        }
        CHECK.due("dueAt(a)", manager.dueAt(0), 3);
        manager.advance(2);
        CHECK.due("connect()", manager.connect(1, 1), 1);
        CHECK.due("dueAt(a) after a connection", manager.dueAt(0), 5);
        manager.advance(1);
        CHECK.due("connect() to b", manager.connect(3, 7), 7);
        manager.advance(1);
        stands("a tick before", manager, 4, "22222");
        manager.advance(1);
        // b runs out at 5, before it would go when idle at 8
        unit("a goes", manager, 0, 0, 0, 0, 5, NONE);
        unit("b exits", manager, 2, 4, 1, 1, 5, NONE);
        stands("c is bound to a", manager, 5, "02420");
        CHECK.due("connect() starts a", manager.connect(1, 2), 2);
        CHECK.due("accepted(s)", manager.accepted(1), 3);
        manager = Check.made("service a idle 3");
        manager.start(0, false);
        manager.kill(0, 8);
        manager.start(0, false);
        unit("a has failed before", manager, 0, 2, 1, 8, 0, 3);
        manager.advance(3);
        unit("and then goes with success", manager, 0, 0, 0, 8, 3, NONE);
        manager = Check.made("service a run 4 idle 4 exit 6;service b idle 4 run 5 exit 6;socket s a 1");
        manager.start(0, false);
        manager.start(1, false);
        manager.advance(4);
        unit("both due: it exits", manager, 0, 4, 1, 6, 4, NONE);
        unit("idle is due first", manager, 1, 0, 0, 0, 4, NONE);
    }

    private static void jobsWhenIdle() {
        ServiceManager manager = Check.made("service a idle 3;service b idle 3;service c startup 9;service d stopping 9;b after c;d after a");
        manager.start(0, false);
        manager.start(1, false);
        manager.start(3, false);
        manager.start(2, false);
        manager.restart(1, false);
        manager.stop(3, false);
        manager.stop(0, false);
        stands("at first", manager, 0, "2213");
        manager.advance(3);
        stands("both go", manager, 3, "0013");
        CHECK.due("the stop is done", manager.outcomeOf(0), 0);
        CHECK.due("jobOf(a)", manager.jobOf(0), 0);
        CHECK.due("the restart is a start now", manager.jobOf(1), 1);
        manager.advance(6);
        CHECK.due("b starts after c", manager.stateOf(1), 2);
    }

    private static void connections() {
        ServiceManager manager = Check.made("service a startup 3;socket s a 3;socket r a 50;target t;service b;socket q b 2;b requires a");
        CHECK.due("connect() to an inactive socket", manager.connect(1, 1), WRONG_STATE);
        CHECK.due("connect() to a service", manager.connect(0, 1), WRONG_STATE);
        CHECK.due("connect() to a target", manager.connect(3, 1), WRONG_STATE);
        for (int unit : new int[] {1, 2, 3, 5}) {
            manager.start(unit, false);
        }
        CHECK.due("connect() to an active target", manager.connect(3, 1), WRONG_STATE);
        CHECK.due("connect() of 5 to a socket for 3", manager.connect(1, 5), 3);
        stands("the service starts", manager, 0, "122202");
        CHECK.due("queued(s)", manager.queued(1), 3);
        CHECK.due("lost(s)", manager.lost(1), 2);
        CHECK.due("accepted(s)", manager.accepted(1), 0);
        CHECK.due("jobOf(a)", manager.jobOf(0), 1);
        CHECK.due("connect() of 100 to a socket for 50", manager.connect(2, 100), 50);
        CHECK.due("connect() to a full socket", manager.connect(1, 1), 0);
        CHECK.due("lost(s) then", manager.lost(1), 3);
        manager.advance(3);
        CHECK.due("accepted(s) then", manager.accepted(1), 3);
        CHECK.due("accepted(r) then", manager.accepted(2), 50);
        CHECK.due("queued(r) then", manager.queued(2), 0);
        CHECK.due("connect() to an active service", manager.connect(1, 100), 100);
        CHECK.due("accepted(s) at last", manager.accepted(1), 103);
        CHECK.due("lost(s) at last", manager.lost(1), 3);
        CHECK.due("connect() starts at once", manager.connect(5, 1), 1);
        CHECK.due("accepted(q)", manager.accepted(5), 1);
        CHECK.due("queued(q)", manager.queued(5), 0);
    }

    private static void connectionsThatStay() {
        ServiceManager manager = Check.made("service a;socket s a 4;service b;service c stopping 9;a requires b;a conflicts c;socket r c 9");
        manager.start(1, false);
        manager.setMasked(0, true);
        CHECK.due("connect() for a masked service", manager.connect(1, 1), 1);
        CHECK.due("queued() for a masked service", manager.queued(1), 1);
        manager.setMasked(0, false);
        manager.setMasked(2, true);
        CHECK.due("connect() when the transaction fails", manager.connect(1, 1), 1);
        CHECK.due("queued() then", manager.queued(1), 2);
        CHECK.due("jobOf(a)", manager.jobOf(0), 0);
        manager.setMasked(2, false);
        manager.start(3, false);
        manager.stop(3, false);
        manager.start(4, true);
        manager.start(3, true);
        CHECK.due("c is to start", manager.jobOf(3), 1);
        CHECK.due("connect() when it would be BUSY", manager.connect(1, 1), 1);
        CHECK.due("jobOf(a) then", manager.jobOf(0), 0);
        manager.advance(9);
        CHECK.due("connect() stops the opponent", manager.connect(1, 1), 1);
        CHECK.due("queued() at last", manager.queued(1), 0);
        CHECK.due("accepted() at last", manager.accepted(1), 4);
        stands("at last", manager, 9, "22232");
        CHECK.due("connect() to what is stopping", manager.connect(4, 9), 9);
        CHECK.due("it is not started again", manager.jobOf(3), 2);
        manager.stop(4, false);
        CHECK.due("the queued ones are dropped", manager.lost(4), 9);
        CHECK.due("none is queued", manager.queued(4), 0);
    }

    private static void connectionsInOtherStates() {
        ServiceManager manager = Check.made("service a run 2 exit 1 restart always delay 5;socket s a 9;service b run 2 exit 1;socket r b 9");
        for (int unit = 0; unit < 4; unit++) {
            manager.start(unit, false);
        }
        manager.advance(2);
        CHECK.due("connect() to what waits for its restart", manager.connect(1, 2), 2);
        CHECK.due("it still waits", manager.stateOf(0), 5);
        CHECK.due("connect() to what has failed", manager.connect(3, 2), 2);
        CHECK.due("it is active", manager.stateOf(2), 2);
        manager.advance(5);
        CHECK.due("accepted() after the restart", manager.accepted(1), 2);
        manager.restart(1, false);
        CHECK.due("accepted() after a restart of the socket", manager.accepted(1), 2);
        CHECK.due("lost()", manager.lost(1), 0);
    }

    private static void killing() {
        ServiceManager manager = Check.made("service a startup 5;service b;target t;socket s b 2;service c startup 5;b binds a;c requires a;c after a");
        CHECK.due("kill() in the state 0", manager.kill(0, 1), WRONG_STATE);
        manager.start(2, false);
        CHECK.due("kill() of a target", manager.kill(2, 1), WRONG_STATE);
        manager.start(1, false);
        manager.start(4, false);
        stands("b is active before a", manager, 0, "12200");
        CHECK.due("kill() in the state 1", manager.kill(0, 255), 4);
        stands("b, which is bound, is not stopped", manager, 0, "42200");
        unit("a", manager, 0, 4, 1, 255, 0, NONE);
        CHECK.due("outcomeOf(a)", manager.outcomeOf(0), 1);
        CHECK.due("what waited for it", manager.outcomeOf(4), 2);
        CHECK.due("kill() in the state 4", manager.kill(0, 1), WRONG_STATE);
        manager.start(0, false);
        CHECK.due("kill() with code 0 in the state 1", manager.kill(0, 0), 0);
        unit("a then", manager, 0, 0, 0, 0, 0, NONE);
        manager.start(0, false);
        manager.advance(5);
        CHECK.due("kill() in the state 2", manager.kill(0, 7), 4);
        stands("b is stopped now", manager, 5, "40200");
        manager = Check.made("service a stopping 5 restart failure;service b stopping 3;a after b");
        manager.start(0, false);
        manager.start(1, false);
        CHECK.due("kill() by the policy", manager.kill(0, 1), 5);
        CHECK.due("kill() in the state 5", manager.kill(0, 1), WRONG_STATE);
        manager.advance(1);
        CHECK.due("kill() with the code 0", manager.kill(0, 0), 0);
        manager.start(0, false);
        manager.stop(0, false);
        CHECK.due("kill() in the state 3", manager.kill(0, 1), WRONG_STATE);
    }

    private static void killRunsJobs() {
        ServiceManager manager = Check.made("service a startup 5;service b;b after a;service c startup 9;a after c");
        manager.start(0, false);
        manager.start(1, false);
        CHECK.due("b waits", manager.stateOf(1), 0);
        manager.kill(0, 1);
        CHECK.due("b starts when the job of a has ended", manager.stateOf(1), 2);
        manager = Check.made("service a;service c startup 9;a after c");
        manager.start(0, false);
        manager.start(1, false);
        manager.restart(0, false);
        CHECK.due("kill() with a restart that waits", manager.kill(0, 3), 4);
        CHECK.due("its job", manager.jobOf(0), 1);
        manager = Check.made("service a startup 9;service c startup 9;a after c");
        manager.start(0, false);
        manager.start(1, false);
        manager.restart(0, false);
        CHECK.due("kill() in the state 1 with a restart that waits", manager.kill(0, 0), 0);
        CHECK.due("no job has ended", manager.outcomeOf(0), NONE);
        CHECK.due("its job then", manager.jobOf(0), 1);
    }

    private static void resetting() {
        ServiceManager manager = Check.made("service a run 1 exit 3;service b fails 1 restart always delay 9 limit 2 100;service c startup 9 stopping 9;target t;socket s a 3");
        CHECK.due("reset() in the state 0", manager.reset(0), true);
        manager.start(0, false);
        manager.start(1, false);
        manager.start(2, false);
        manager.start(3, false);
        String before = Check.everything(manager);
        CHECK.due("reset() in the state 2", manager.reset(0), false);
        CHECK.due("reset() of an active target", manager.reset(3), false);
        CHECK.due("reset() in the state 1", manager.reset(2), false);
        CHECK.due("everything after refused resets", Check.everything(manager), before);
        manager.advance(1);
        unit("a has failed", manager, 0, 4, 1, 3, 1, NONE);
        CHECK.due("reset() in the state 4", manager.reset(0), true);
        unit("a is inactive", manager, 0, 0, 0, 3, 1, NONE);
        CHECK.due("begins(a)", manager.begins(0), 1);
        CHECK.due("recentBegins(a)", manager.recentBegins(0), 0);
        CHECK.due("logSize()", manager.logSize(), 9);
        CHECK.due("reset() in the state 5", manager.reset(1), true);
        unit("b still waits for its restart", manager, 1, 5, 0, 1, 0, 9);
        manager.stop(2, true);
        CHECK.due("reset() in the state 3", manager.reset(2), false);
        manager.advance(8);
        CHECK.due("b fails anew", manager.stateOf(1), 5);
        CHECK.due("recentBegins(b)", manager.recentBegins(1), 1);
        CHECK.due("begins(b)", manager.begins(1), 2);
        manager.advance(9);
        CHECK.due("b is active", manager.stateOf(1), 2);
        manager.stop(1, false);
        manager.start(1, false);
        unit("b hits the limit", manager, 1, 4, 3, 1, 18, NONE);
        CHECK.due("reset() after the limit", manager.reset(1), true);
        unit("b after it", manager, 1, 0, 0, 1, 18, NONE);
        manager.start(1, false);
        CHECK.due("b fails its first activation again", manager.stateOf(1), 5);
    }

    private static void masking() {
        ServiceManager manager = Check.made("service a startup 3;target b");
        CHECK.due("setMasked(true)", manager.setMasked(0, true), false);
        CHECK.due("setMasked(true) again", manager.setMasked(0, true), true);
        CHECK.due("another unit", manager.setMasked(1, false), false);
        CHECK.due("start() of a masked unit", manager.start(0, false), ServiceManager.MASKED);
        CHECK.due("setMasked(false)", manager.setMasked(0, false), true);
        CHECK.due("setMasked(false) again", manager.setMasked(0, false), false);
        CHECK.due("start() then", manager.start(0, false), 1);
        manager.setMasked(0, true);
        CHECK.due("its job stays", manager.jobOf(0), 1);
        manager.advance(3);
        CHECK.due("it is active", manager.stateOf(0), 2);
        Check.reload(manager, "service a");
        CHECK.due("setMasked() after another text", manager.setMasked(0, false), false);
    }

    public static void main(String[] args) {
        advancing();
        exits();
        failing();
        jobsAtAnExit();
        stopsAtAnExit();
        boundUnits();
        boundStopsMayFail();
        restartWithAJob();
        idling();
        jobsWhenIdle();
        connections();
        connectionsThatStay();
        connectionsInOtherStates();
        killing();
        killRunsJobs();
        resetting();
        masking();
        CHECK.finish();
    }
}
