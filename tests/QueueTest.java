/** Promises 17 to 22, and section 4: the queue, running jobs in order, and each outcome of a job. */
public final class QueueTest {

    private static final int NONE = ServiceManager.NONE;
    private static final int WRONG_STATE = ServiceManager.WRONG_STATE;
    private static final Check CHECK = new Check();

    private static void stands(String what, ServiceManager manager, String states, String jobs) {
        CHECK.due(what + ": states", Check.states(manager), states);
        CHECK.due(what + ": jobs", Check.jobs(manager), jobs);
        int length = 0;
        for (int unit = 0; unit < manager.unitCount(); unit++) {
            length += manager.jobOf(unit) == 0 ? 0 : 1;
        }
        CHECK.due(what + ": queueLength()", manager.queueLength(), length);
    }

    private static void inOrder() {
        ServiceManager manager = Check.made("service a startup 2 stopping 1;service b startup 3;service c stopping 2;"
            + "c requires b;b requires a;c after b;b after a");
        stands("at first", manager, "000", "0/-1 0/-1 0/-1");
        CHECK.due("start()", manager.start(2, false), 3);
        stands("a starts", manager, "100", "1*/-1 1/-1 1/-1");
        CHECK.due("precedingJobs(a)", manager.precedingJobs(0), 0);
        CHECK.due("precedingJobs(b)", manager.precedingJobs(1), 0b001);
        CHECK.due("precedingJobs(c)", manager.precedingJobs(2), 0b010);
        manager.advance(2);
        stands("b starts", manager, "210", "0/0 1*/-1 1/-1");
        CHECK.due("precedingJobs(a) without a job", manager.precedingJobs(0), 0);
        CHECK.due("precedingJobs(b) then", manager.precedingJobs(1), 0);
        manager.advance(2);
        stands("b starts still", manager, "210", "0/0 1*/-1 1/-1");
        manager.advance(1);
        stands("c starts at once", manager, "222", "0/0 0/0 0/0");
        CHECK.due("stop()", manager.stop(0, false), 3);
        stands("c stops", manager, "223", "2/0 2/0 2*/0");
        CHECK.due("precedingJobs(a) to stop", manager.precedingJobs(0), 0b010);
        CHECK.due("precedingJobs(c) to stop", manager.precedingJobs(2), 0);
        manager.advance(2);
        stands("b stops at once, then a", manager, "300", "2*/0 0/0 0/0");
        manager.advance(1);
        stands("all are down", manager, "000", "0/0 0/0 0/0");
    }

    private static void stopsFirst() {
        ServiceManager manager = Check.made("service a startup 2;service b stopping 3;service c stopping 4;service d;"
            + "a conflicts b;a after b;c conflicts a;c after a;d conflicts a");
        manager.start(1, false);
        CHECK.due("start() of c", manager.start(2, false), 1);
        CHECK.due("start() of a", manager.start(0, false), 3);
        stands("both stop before a starts", manager, "0330", "1/-1 2*/0 2*/0 0/-1");
        CHECK.due("precedingJobs(a)", manager.precedingJobs(0), 0b0110);
        manager.advance(3);
        stands("c still stops", manager, "0030", "1/-1 0/0 2*/0 0/-1");
        manager.advance(1);
        stands("a starts", manager, "1000", "1*/-1 0/0 0/0 0/-1");
        CHECK.due("start() of d, not ordered", manager.start(3, true), 2);
        stands("a stops, and d is started", manager, "0002", "0/0 0/0 0/0 0/0");
        CHECK.due("start() of a, and of d in one", manager.start(0, false), 2);
        stands("a starts while d stops", manager, "1000", "1*/0 0/0 0/0 0/0");
    }

    private static void cancelling() {
        ServiceManager manager = Check.made("service a startup 9;service b;service c;service d;b after a;c binds b;d requires c;"
            + "c after b;d after c");
        manager.start(0, false);
        manager.start(3, false);
        stands("three wait", manager, "1000", "1*/-1 1/-1 1/-1 1/-1");
        String before = Check.everything(manager);
        CHECK.due("cancel() of a running job", manager.cancel(0), WRONG_STATE);
        CHECK.due("everything after it", Check.everything(manager), before);
        CHECK.due("cancel() of b", manager.cancel(1), 1);
        stands("what needs b fails, and so on", manager, "1000", "1*/-1 0/4 0/2 0/2");
        CHECK.due("cancel() without a job", manager.cancel(1), WRONG_STATE);
        manager.start(3, false);
        CHECK.due("cancel() of c", manager.cancel(2), 2);
        stands("what c needs stays", manager, "1000", "1*/-1 1/4 0/4 0/2");
        CHECK.due("restart() of b", manager.restart(1, false), 1);
        CHECK.due("cancel() of a restart", manager.cancel(1), 1);
        CHECK.due("cancel() at the end of the queue", manager.cancel(1), WRONG_STATE);
    }

    private static void cancelsAStop() {
        ServiceManager manager = Check.made("service a stopping 5;service b stopping 5;service c;service d startup 3;a before b;c after a;c requires b");
        manager.start(1, false);
        manager.start(0, false);
        manager.stop(1, false);
        manager.stop(0, false);
        stands("a stops after b", manager, "2300", "2/0 2*/0 0/-1 0/-1");
        CHECK.due("cancel() of the stop", manager.cancel(0), 1);
        stands("a stays", manager, "2300", "0/4 2*/0 0/-1 0/-1");
        manager.start(2, true);
        stands("b is still stopping, so its start waits; that is enough for c", manager, "2320", "0/4 1/4 0/0 0/-1");
        manager.advance(5);
        stands("b is down, and then up again", manager, "2220", "0/4 0/0 0/0 0/-1");
    }

    private static void startOfWhatIsActive() {
        ServiceManager manager = Check.made("service a;service b stopping 5;b after a");
        manager.start(0, false);
        manager.start(1, false);
        manager.stop(1, false);
        manager.stop(0, false);
        CHECK.due("start() of what is active and was to stop", manager.start(0, true), 1);
        stands("the start waits for the stop of b", manager, "23", "1/4 2*/0");
        manager.advance(5);
        stands("then there is nothing to do for it", manager, "20", "0/0 0/0");
        CHECK.due("begins(a)", manager.begins(0), 1);
        CHECK.due("since(a)", manager.since(0), 0);
    }

    private static void startOfWhatIsActivating() {
        ServiceManager manager = Check.made("service a startup 9;service b stopping 5;b after a");
        manager.start(1, false);
        manager.start(0, false);
        manager.stop(0, true);
        stands("a has gone down, as b does not stop", manager, "02", "0/0 0/0");
        manager.start(0, false);
        manager.restart(1, false);
        stands("b restarts after a", manager, "12", "1*/0 3/0");
        manager.stop(1, true);
        manager.stop(0, true);
        stands("a is to stop after b", manager, "13", "2/4 2*/4");
        CHECK.due("cancel() of the stop", manager.cancel(0), 1);
        stands("a is activating without a job", manager, "13", "0/4 2*/4");
        manager.advance(5);
        CHECK.due("start() of what is activating", manager.start(0, false), 1);
        stands("it is running", manager, "10", "1*/4 0/0");
        CHECK.due("begins(a)", manager.begins(0), 2);
        manager.advance(4);
        stands("a is active", manager, "20", "0/0 0/0");
        CHECK.due("since(a)", manager.since(0), 9);
    }

    private static void runsAfterCancel() {
        ServiceManager manager = Check.made("service a startup 9;service b;service c;b after a;c after b");
        manager.start(0, false);
        manager.start(1, false);
        manager.start(2, false);
        CHECK.due("cancel() lets the next job run", manager.cancel(1), 1);
        stands("c is active", manager, "102", "1*/-1 0/4 0/0");
    }

    private static void failedByDependencies() {
        ServiceManager manager = Check.made("service a startup 2 fails 1;service b;service c;service d;target e;"
            + "b requires a;b after a;c wants a;c after a;d binds b;d after b;e requires a");
        CHECK.due("start() of d", manager.start(3, false), 3);
        CHECK.due("start() of c", manager.start(2, false), 2);
        // e is not ordered after a, so it is enough that a is activating
        CHECK.due("start() of e", manager.start(4, false), 2);
        stands("e is active before a", manager, "10002", "1*/-1 1/-1 1/-1 1/-1 0/0");
        CHECK.due("isSound() then", manager.isSound(), false);
        manager.advance(2);
        stands("a fails, what needs it fails, what wants it starts", manager, "40202", "0/1 0/2 0/0 0/2 0/0");
        manager.setMasked(1, true);
        CHECK.due("start() of d with b masked", manager.start(3, false), ServiceManager.MASKED);
    }

    private static void requirements() {
        ServiceManager manager = Check.made("target a;service b startup 2;service c;target d;c requires b;d wants c;d wants a");
        manager.setMasked(1, true);
        CHECK.due("start() of what wants c", manager.start(3, false), 3);
        stands("c needs b, which has no job", manager, "2002", "0/0 0/-1 0/2 0/0");
        manager.setMasked(1, false);
        CHECK.due("start() of c", manager.start(2, false), 2);
        stands("it is enough that b is activating", manager, "2122", "0/0 1*/-1 0/0 0/0");
        // b is visited after a, but has a job to start
        manager = Check.made("service a;service b startup 2;service c;a requires b;c requires b;c after b");
        CHECK.due("start() of a", manager.start(0, false), 2);
        stands("it is enough that b is to start", manager, "210", "0/0 1*/-1 0/-1");
        CHECK.due("start() of c", manager.start(2, false), 2);
        stands("c waits", manager, "210", "0/0 1*/-1 1/-1");
        manager.kill(1, 3);
        stands("b fails before, and with it the waiting c alone", manager, "240", "0/0 0/1 0/2");
    }

    private static void orderedAfterWhatItNeeds() {
        // a is restarted by its policy: it has no job, and is not active, when b starts
        ServiceManager manager = Check.made("service a run 2 restart always delay 5;service b;service c;b requires a;b after a;c requires a");
        manager.start(0, false);
        manager.advance(2);
        manager.setMasked(0, true);
        CHECK.due("the state of a", manager.stateOf(0), 5);
        CHECK.due("start() of b", manager.start(1, false), ServiceManager.MASKED);
        manager.setMasked(0, false);
        CHECK.due("start() of c", manager.start(2, false), 2);
        stands("a is started before its time", manager, "202", "0/0 0/-1 0/0");
        CHECK.due("restarts(a)", manager.restarts(0), 0);
    }

    private static void limits() {
        ServiceManager manager = Check.made("service a limit 2 10;socket s a 5;socket r a 5;service b;b requires a;service c startup 9;"
            + "target d;d requires s;d after c;s after c");
        for (int unit = 0; unit < 3; unit++) {
            manager.start(unit, false);
        }
        manager.restart(0, false);
        stands("two begins", manager, "222000", "0/0 0/0 0/0 0/-1 0/-1 0/-1");
        manager.start(4, false);
        manager.restart(1, false);
        manager.start(5, false);
        manager.stop(0, false);
        manager.connect(1, 3);
        stands("the start for the connection fails by the limit", manager, "444010", "0/3 0/4 0/0 0/-1 1*/-1 0/2");
        int[] results = {3, 3, 3, 0, 0, 0};
        for (int unit = 0; unit < 6; unit++) {
            CHECK.due("resultOf(" + unit + ")", manager.resultOf(unit), results[unit]);
        }
        CHECK.due("the queued connections are dropped", manager.lost(1), 3);
        CHECK.due("none is queued", manager.queued(1), 0);
        CHECK.due("begins(a)", manager.begins(0), 2);
        CHECK.due("start() of b", manager.start(3, false), 2);
        stands("b fails with a", manager, "444010", "0/3 0/4 0/0 0/2 1*/-1 0/2");
        manager.advance(9);
        manager.start(0, false);
        CHECK.due("nine ticks later", manager.outcomeOf(0), 3);
        manager.advance(1);
        CHECK.due("ten ticks later", manager.start(0, false), 1);
        CHECK.due("it is active", manager.stateOf(0), 2);
        CHECK.due("its outcome", manager.outcomeOf(0), 0);
    }

    private static void stopOfEachState() {
        ServiceManager manager = Check.made("service a run 1 exit 1;service b run 1 restart always delay 9;service c startup 9 stopping 4;"
            + "service d startup 9 stopping 4;target e");
        for (int unit = 0; unit < 5; unit++) {
            manager.start(unit, false);
        }
        manager.advance(1);
        stands("at first", manager, "45112", "0/0 0/0 1*/-1 1*/-1 0/0");
        CHECK.due("stop() in the state 4", manager.stop(0, false), 0);
        CHECK.due("stop() in the state 5", manager.stop(1, false), 1);
        CHECK.due("resultOf() stays", manager.resultOf(0), 1);
        CHECK.due("stop() in the state 1", manager.stop(2, true), 1);
        CHECK.due("restart() in the state 1", manager.restart(3, true), 1);
        CHECK.due("restart() in the state 2", manager.restart(4, true), 1);
        CHECK.due("restart() in the state 4", manager.restart(0, false), 1);
        stands("then", manager, "20332", "0/0 0/0 2*/4 3*/-1 0/0");
        manager.advance(4);
        stands("four ticks later", manager, "40012", "0/0 0/0 0/0 1*/-1 0/0");
        CHECK.due("restart() in the state 0", manager.restart(1, false), 1);
        CHECK.due("its state", manager.stateOf(1), 2);
        manager.stop(3, true);
        CHECK.due("restart() in the state 3", manager.restart(3, true), 1);
        CHECK.due("it is running", manager.isRunning(3), true);
        manager.stop(3, true);
        CHECK.due("stop() in the state 3", manager.isRunning(3), true);
        CHECK.due("start() in the state 3", manager.start(3, true), 1);
        CHECK.due("it is waiting", manager.isRunning(3), false);
        manager.advance(4);
        CHECK.due("then it starts", manager.isRunning(3), true);
    }

    private static void failsInStateFive() {
        String text = "service a startup 9;service b run 2 exit 5 restart always delay 9;service c run 2 exit 5 restart always delay 9;"
            + "service d startup 3;b after d;c requires b;c after b;target e;e after d";
        ServiceManager manager = Check.made(text);
        manager.start(2, false);
        manager.advance(2);
        CHECK.due("both wait for their restart", manager.inState(5), 0b00110);
        manager.start(3, false);
        manager.start(2, false);
        stands("both have a waiting job", manager, "05510", "0/-1 1/0 1/0 1*/-1 0/-1");
        CHECK.due("cancel()", manager.cancel(1), 1);
        stands("both fail", manager, "04410", "0/-1 0/4 0/2 1*/-1 0/-1");
        CHECK.due("the result of b stays", manager.resultOf(1), 1);
        CHECK.due("the result of c stays", manager.resultOf(2), 1);
        CHECK.due("dueAt(b)", manager.dueAt(1), NONE);
        manager = Check.made(text);
        manager.start(2, false);
        manager.advance(2);
        manager.start(3, false);
        manager.start(2, false);
        CHECK.due("stop() that replaces", manager.stop(1, true), 2);
        // the cancelled start of b fails that of c, which thereby is failed before it gets its own stop
        stands("both are stopped", manager, "00410", "0/-1 0/0 0/0 1*/-1 0/-1");
    }

    private static void mergeInOrderOfUnits() {
        // the cancelled start of b fails a, which has its own stop already, and d, which waits by itself
        ServiceManager manager = Check.made("service a;service b;service c startup 9;service d;a requires b;a after b;b after c;d requires b;d after b");
        manager.start(2, false);
        manager.start(0, false);
        manager.start(3, false);
        stands("three wait", manager, "0010", "1/-1 1/-1 1*/-1 1/-1");
        CHECK.due("stop() of b", manager.stop(1, true), 3);
        stands("all are stopped", manager, "0010", "0/0 0/0 1*/-1 0/0");
    }

    public static void main(String[] args) {
        inOrder();
        stopsFirst();
        cancelling();
        cancelsAStop();
        startOfWhatIsActive();
        startOfWhatIsActivating();
        runsAfterCancel();
        failedByDependencies();
        requirements();
        orderedAfterWhatItNeeds();
        limits();
        stopOfEachState();
        failsInStateFive();
        mergeInOrderOfUnits();
        CHECK.due("queueLength() of a new object", new ServiceManager().queueLength(), 0);
        CHECK.finish();
    }
}
