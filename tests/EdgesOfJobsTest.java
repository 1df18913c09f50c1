/** Section 4 and promises 17 to 22: a test for each sentence that names a boundary case. */
public final class EdgesOfJobsTest {

    private static final int NONE = ServiceManager.NONE;
    private static final int WRONG_STATE = ServiceManager.WRONG_STATE;
    private static final int START = 1;
    private static final int STOP = 2;
    private static final int RESTART = 3;
    private static final Check CHECK = new Check();

    private static ServiceManager targets(int count, String relations) {
        return Check.made(Check.targets(count, relations));
    }

    private static void stands(String what, ServiceManager manager, String states, String jobs) {
        CHECK.due(what + ": states", Check.states(manager), states);
        CHECK.due(what + ": jobs", Check.jobs(manager), jobs);
    }

    private static void startAll(ServiceManager manager) {
        for (int unit = 0; unit < manager.unitCount(); unit++) {
            manager.start(unit, false);
        }
    }

    /** The unit 0 stops for 50 ticks, and as it is ordered after the unit 1, each job of that one waits; the text describes that one. */
    private static ServiceManager behindAStop(String text, boolean active) {
        ServiceManager manager = Check.made("service x stopping 50;" + text + ";x after a");
        if (active) {
            manager.start(1, false);
        }
        manager.start(0, false);
        manager.stop(0, false);
        return manager;
    }

    // ---- section 4: which jobs run, and when

    /** Section 4: "the units are visited in the order of their numbers". */
    private static void visitedInOrder() {
        ServiceManager manager = targets(3, ";b requires a;b requires c");
        manager.start(1, false);
        CHECK.due("the log of three starts", Check.log(manager), "0:0:1 0:0:2 0:1:1 0:1:2 0:2:1 0:2:2");
    }

    /** Section 4: "again and again, until a whole round in which nothing happens": sixteen rounds, and one more. */
    private static void againAndAgain() {
        StringBuilder relations = new StringBuilder();
        for (int unit = 0; unit < 15; unit++) {
            char one = (char) ('a' + unit);
            relations.append(';').append(one).append(" requires ").append((char) (one + 1));
            relations.append(';').append(one).append(" after ").append((char) (one + 1));
        }
        ServiceManager manager = targets(16, relations.toString());
        manager.start(0, false);
        CHECK.due("all are active", manager.inState(2), 0xFFFF);
        for (int index = 0; index < 32; index++) {
            CHECK.due("the unit of the entry " + index, manager.logEntry(index, 1), 15 - index / 2);
        }
        manager.restart(15, false);
        CHECK.due("all are active again", manager.inState(2), 0xFFFF);
        // of 96 changes the log has lost the first 36: 32 of the starts, and 4 of the unit 15
        CHECK.due("they restarted from the last one on", manager.logEntry(0, 1) * 100 + manager.logEntry(0, 2), 1403);
        CHECK.due("the last change", manager.logEntry(59, 1) * 100 + manager.logEntry(59, 2), 2);
    }

    /** Section 4: a waiting job can run "if no job in the queue of another unit precedes it"; without a job none precedes. */
    private static void noJobPrecedes() {
        ServiceManager manager = Check.made("service a startup 5;service b;b after a");
        manager.start(1, false);
        stands("a has no job", manager, "02", "0/-1 0/0");
        manager.stop(1, false);
        manager.start(0, false);
        manager.start(1, false);
        stands("a has a job", manager, "10", "1*/-1 1/0");
        manager.advance(4);
        stands("a has it still", manager, "10", "1*/-1 1/0");
        manager.advance(1);
        stands("a has none any more", manager, "22", "0/0 0/0");
    }

    /** Section 4: "and, if it is to start, its unit is not in the state 3". */
    private static void notInStateThree() {
        ServiceManager manager = Check.made("service a stopping 5");
        manager.start(0, false);
        manager.stop(0, false);
        manager.start(0, true);
        stands("a start in the state 3", manager, "3", "1/4");
        manager.advance(4);
        stands("a tick before the end", manager, "3", "1/4");
        manager.advance(1);
        stands("at the end", manager, "2", "0/0");
    }

    /** Section 4: "To stop: in the states 0 and 4 the job is done". */
    private static void stopInStatesZeroAndFour() {
        ServiceManager manager = Check.made("service x startup 9;service a;service b run 1 exit 7;a after x;b after x");
        manager.start(2, false);
        manager.advance(1);
        manager.start(0, false);
        manager.start(1, false);
        manager.start(2, false);
        int logged = manager.logSize();
        stands("both wait", manager, "104", "1*/-1 1/-1 1/0");
        CHECK.due("stop() in the state 0", manager.stop(1, true), 1);
        CHECK.due("stop() in the state 4", manager.stop(2, true), 1);
        stands("both are done", manager, "104", "1*/-1 0/0 0/0");
        CHECK.due("no state has changed", manager.logSize(), logged);
        CHECK.due("the result stays", manager.resultOf(2), 1);
    }

    /** Section 4: to stop: "In the state 5 the unit becomes inactive, and the job is done". */
    private static void stopInStateFive() {
        ServiceManager manager = Check.made("service a run 1 exit 7 restart always delay 5");
        manager.start(0, false);
        manager.advance(1);
        CHECK.due("stop()", manager.stop(0, false), 1);
        stands("in the state 5", manager, "0", "0/0");
        CHECK.due("the result stays", manager.resultOf(0), 1);
        manager.advance(10);
        CHECK.due("it is not started again", manager.stateOf(0), 0);
    }

    /** Section 4: to stop: "In the states 1 and 2 the unit begins to stop, and the job is running; in the state 3 the job is running". */
    private static void stopInOtherStates() {
        ServiceManager manager = Check.made("service a startup 5 stopping 5;service b stopping 5");
        startAll(manager);
        stands("in the states 1 and 2", manager, "12", "1*/-1 0/0");
        manager.stop(0, true);
        manager.stop(1, true);
        stands("both begin to stop", manager, "33", "2*/4 2*/0");
        manager.advance(2);
        manager.start(1, true);
        manager.stop(1, true);
        stands("a stop in the state 3", manager, "33", "2*/4 2*/4");
        CHECK.due("it does not begin again", manager.since(1), 0);
        manager.advance(3);
        stands("both have stopped", manager, "00", "0/0 0/0");
    }

    /** Section 4: "To restart: in the states 0, 4 and 5 it becomes a waiting job to start". */
    private static void restartOfWhatIsDown() {
        ServiceManager manager = Check.made("service a startup 5;service b run 1 exit 1 startup 5;service c run 1 restart always delay 50 startup 5");
        manager.start(1, false);
        manager.start(2, false);
        manager.advance(6);
        CHECK.due("the states 0, 4 and 5", Check.states(manager), "045");
        for (int unit = 0; unit < 3; unit++) {
            CHECK.due("restart(" + unit + ")", manager.restart(unit, false), 1);
        }
        stands("all have begun to start", manager, "111", "1*/-1 1*/0 1*/0");
        CHECK.due("restarts() by the policy", manager.restarts(2), 0);
    }

    /** Section 4: to restart: "In the states 1 and 2 the unit begins to stop; in these and in the state 3 the job is running". */
    private static void restartOfWhatIsUp() {
        ServiceManager manager = Check.made("service a startup 5 stopping 5;service b stopping 5;service c stopping 5");
        startAll(manager);
        manager.stop(2, false);
        for (int unit = 0; unit < 3; unit++) {
            CHECK.due("restart(" + unit + ")", manager.restart(unit, true), 1);
        }
        stands("all stop", manager, "333", "3*/-1 3*/0 3*/4");
        manager.advance(5);
        stands("and start", manager, "122", "1*/-1 0/0 0/0");
    }

    /** Section 4: "To start: in the state 2 the job is done". */
    private static void startInStateTwo() {
        ServiceManager manager = behindAStop("service a", true);
        manager.stop(1, false);
        manager.start(1, true);
        int logged = manager.logSize();
        stands("it waits", manager, "32", "2*/0 1/4");
        manager.advance(50);
        stands("it is done", manager, "02", "0/0 0/0");
        CHECK.due("only x has changed", manager.logSize(), logged + 1);
        CHECK.due("begins()", manager.begins(1), 1);
    }

    /** An activating unit 1 without a job: its start was replaced by a stop, which was cancelled. */
    private static ServiceManager activatingWithoutJob(String properties) {
        ServiceManager manager = Check.made("service x stopping 50;service a startup 9 " + properties + ";x after a");
        manager.start(0, false);
        manager.start(1, false);
        manager.stop(0, false);
        manager.stop(1, true);
        manager.cancel(1);
        stands("activating without a job", manager, "31", "2*/0 0/4");
        return manager;
    }

    /** Section 4: to start: "in the state 1 it is running". */
    private static void startInStateOne() {
        ServiceManager manager = Check.made("service x stopping 5;service a startup 9;x after a;service y startup 90");
        manager.start(0, false);
        manager.start(1, false);
        manager.stop(0, false);
        manager.stop(1, true);
        manager.cancel(1);
        manager.start(1, false);
        manager.start(2, false);
        stands("it waits for the stop of x", manager, "311", "2*/0 1/4 1*/-1");
        manager.advance(5);
        stands("it is running", manager, "011", "0/0 1*/4 1*/-1");
        CHECK.due("begins()", manager.begins(1), 1);
        CHECK.due("dueAt()", manager.dueAt(1), 9);
    }

    // ---- section 4: requirements

    /** Section 4: "each unit that it needs must be active": it is not enough that it was. */
    private static void neededMustBeActive() {
        String[] properties = {"run 2", "run 2 exit 1", "run 2 restart always delay 50"};
        String[] states = {"2020", "2420", "2520"};
        for (int kind = 0; kind < 3; kind++) {
            ServiceManager manager = Check.made("service x startup 5;service a " + properties[kind] + ";target c;target b;"
                + "b requires a;b after x;c wants a;c after x");
            manager.start(0, false);
            manager.start(3, false);
            manager.start(2, false);
            stands("a is active, the others wait", manager, "1200", "1*/-1 0/0 1/-1 1/-1");
            manager.advance(5);
            stands("a is not active any more", manager, states[kind], "0/0 0/0 0/0 0/2");
        }
    }

    /** Section 4: "or, unless it is ordered after that unit, be activating". */
    private static void neededMayBeActivating() {
        ServiceManager manager = Check.made("service a startup 5;target b;target c;b requires a;c binds a;c after a");
        manager.start(1, false);
        stands("b is not ordered after a", manager, "120", "1*/-1 0/0 0/-1");
        manager.start(2, false);
        stands("c is", manager, "120", "1*/-1 0/0 1/-1");
        manager.advance(5);
        stands("a is active", manager, "222", "0/0 0/0 0/0");
    }

    /** Section 4: "be activating" is enough without a job, too, "unless it is ordered after that unit". */
    private static void neededIsActivatingWithoutJob() {
        for (String order : new String[] {"", ";b after a"}) {
            ServiceManager manager = Check.made("service x stopping 50;service a startup 9;x after a;target b;b requires a;target c;c wants b" + order);
            manager.start(0, false);
            manager.start(1, false);
            manager.stop(0, false);
            manager.stop(1, true);
            manager.cancel(1);
            // as a is masked, it gets no job from what is wanted
            manager.setMasked(1, true);
            CHECK.due("start() of what wants b", manager.start(3, false), 2);
            stands("b" + order, manager, order.isEmpty() ? "3122" : "3102", order.isEmpty() ? "2*/0 0/4 0/0 0/0" : "2*/0 0/4 0/2 0/0");
        }
    }

    /** Section 4: "each unit that it needs must be active": in the other states, without a job, the job fails. */
    private static void neededInOtherStates() {
        String[] properties = {"", "stopping 9", "run 1 exit 1", "run 1 restart always delay 9"};
        String states = "0345";
        for (int index = 0; index < 4; index++) {
            ServiceManager manager = Check.made("service a " + properties[index] + ";target b;b requires a;target c;c wants b");
            if (index > 0) {
                manager.start(0, false);
            }
            if (index == 1) {
                manager.stop(0, false);
                manager.start(0, true);
                manager.cancel(0);
            }
            manager.advance(1);
            manager.setMasked(0, true);
            CHECK.due("the state of a", manager.stateOf(0), states.charAt(index) - '0');
            CHECK.due("its job", manager.jobOf(0), 0);
            manager.start(2, false);
            CHECK.due("the outcome of b", manager.outcomeOf(1), 2);
            CHECK.due("the outcome of c", manager.outcomeOf(2), 0);
        }
    }

    /** Section 4: "or have a job to start or restart", even if it waits, or its unit stops. */
    private static void neededMayHaveAJob() {
        ServiceManager manager = Check.made("service x startup 9;target b;service a stopping 9;b requires a;a after x");
        manager.start(0, false);
        manager.start(1, false);
        stands("a has a start that waits", manager, "120", "1*/-1 0/0 1/-1");
        manager = Check.made("service x startup 9;target b;service a stopping 9;b requires a;a after x");
        manager.start(2, false);
        manager.restart(2, false);
        manager.start(1, false);
        stands("a has a restart that is running", manager, "023", "0/-1 0/0 3*/0");
    }

    // ---- section 4: the limit

    /** Section 4: "if it has begun BURST times or more in the last INTERVAL ticks (at a time greater than now - INTERVAL)". */
    private static void limit() {
        ServiceManager manager = Check.made("service a limit 2 5");
        manager.restart(0, false);
        manager.advance(1);
        manager.restart(0, false);
        CHECK.due("BURST begins", manager.stateOf(0), 2);
        manager.advance(3);
        manager.restart(0, false);
        CHECK.due("at 4 both count", manager.outcomeOf(0), 3);
        CHECK.due("recentBegins() at 4", manager.recentBegins(0), 2);
        manager.advance(1);
        CHECK.due("recentBegins() at 5", manager.recentBegins(0), 1);
        manager.start(0, false);
        CHECK.due("at 5 the begin at 0 does not count", manager.outcomeOf(0), 0);
        manager.restart(0, false);
        CHECK.due("but those at 1 and 5 do", manager.outcomeOf(0), 3);
    }

    /** Section 2 and 4: the least limit, 1 and 1: one begin in a tick. */
    private static void leastLimit() {
        ServiceManager manager = Check.made("service a limit 1 1");
        manager.start(0, false);
        CHECK.due("the first begin", manager.stateOf(0), 2);
        manager.restart(0, false);
        CHECK.due("the second one in this tick", manager.stateOf(0), 4);
        manager.advance(1);
        manager.start(0, false);
        CHECK.due("one in the next tick", manager.stateOf(0), 2);
    }

    /** Section 2 and 4: the greatest limit, 9 and 1000. */
    private static void greatestLimit() {
        ServiceManager manager = Check.made("service a limit 9 1000");
        manager.start(0, false);
        for (int begin = 2; begin <= 9; begin++) {
            manager.restart(0, false);
            CHECK.due("the begin number " + begin, manager.stateOf(0), 2);
        }
        manager.restart(0, false);
        CHECK.due("the tenth one", manager.stateOf(0), 4);
        manager.advance(999);
        manager.start(0, false);
        CHECK.due("999 ticks later", manager.outcomeOf(0), 3);
        manager.advance(1);
        manager.start(0, false);
        CHECK.due("1000 ticks later", manager.outcomeOf(0), 0);
        CHECK.due("recentBegins() then", manager.recentBegins(0), 1);
    }

    /** Section 2 and 4: "limit BURST INTERVAL - ... (5 and 10)" without it. */
    private static void limitWithoutWords() {
        ServiceManager manager = Check.made("service a");
        for (int begin = 0; begin < 5; begin++) {
            manager.restart(0, false);
        }
        CHECK.due("five begins", manager.stateOf(0), 2);
        manager.restart(0, false);
        CHECK.due("the sixth one", manager.stateOf(0), 4);
        manager.advance(9);
        manager.start(0, false);
        CHECK.due("nine ticks later", manager.stateOf(0), 4);
        manager.advance(1);
        manager.start(0, false);
        CHECK.due("ten ticks later", manager.stateOf(0), 2);
    }

    /** Section 4: "for a service": sockets and targets have no limit. */
    private static void noLimitForOthers() {
        ServiceManager manager = Check.made("service a;socket s a 1;target t");
        for (int begin = 1; begin <= 30; begin++) {
            manager.restart(1, false);
            manager.restart(2, false);
        }
        CHECK.due("both are active", manager.inState(2), 0b110);
        CHECK.due("begins(s)", manager.begins(1), 30);
        CHECK.due("begins(t)", manager.begins(2), 30);
    }

    /** Section 4: "the job fails by the limit, ... and then the unit becomes failed, with the result 3", from each state. */
    private static void failsByLimit() {
        ServiceManager manager = Check.made("service a limit 1 100;service b limit 1 100 run 1 restart always;service c limit 1 100 run 1 exit 5");
        startAll(manager);
        manager.stop(0, false);
        manager.advance(1);
        CHECK.due("the states 0, 5 and 4", Check.states(manager), "054");
        int logged = manager.logSize();
        startAll(manager);
        stands("all fail", manager, "444", "0/3 0/3 0/3");
        for (int unit = 0; unit < 3; unit++) {
            CHECK.due("resultOf(" + unit + ")", manager.resultOf(unit), 3);
            CHECK.due("begins(" + unit + ")", manager.begins(unit), 1);
        }
        CHECK.due("the exit code stays", manager.exitCode(2), 5);
        CHECK.due("no change of what had failed before", manager.logSize(), logged + 2);
        CHECK.due("since() of it", manager.since(2), 1);
    }

    /** Section 4: "all active sockets of this service become failed, with the result 3, in the order of the units". */
    private static void socketsOfTheLimit() {
        ServiceManager manager = Check.made("service a limit 1 100;socket s a 5;socket r a 5;service b;socket q b 5;socket p a 5");
        startAll(manager);
        manager.stop(2, false);
        int logged = manager.logSize();
        manager.restart(0, false);
        CHECK.due("s and p, not r and q", Check.states(manager), "440224");
        int[] results = {3, 3, 0, 0, 0, 3};
        for (int unit = 0; unit < 6; unit++) {
            CHECK.due("resultOf(" + unit + ")", manager.resultOf(unit), results[unit]);
        }
        int[] changes = {3, 0, 4, 4, 4};
        int[] units = {0, 0, 0, 1, 5};
        for (int index = 0; index < changes.length; index++) {
            CHECK.due("the change " + index, manager.logEntry(logged + index, 2), changes[index]);
            CHECK.due("the unit of the change " + index, manager.logEntry(logged + index, 1), units[index]);
        }
    }

    /** Section 4: "a job that such a socket has is cancelled": to start, to stop and to restart, with what follows. */
    private static void jobsOfSockets() {
        ServiceManager manager = Check.made("service x stopping 50;service a limit 1 100;socket p a 5;socket q a 5;socket r a 5;target t;t requires r;"
            + "x after p;x after q;x after r;x after t");
        startAll(manager);
        manager.stop(5, false);
        manager.stop(0, false);
        manager.stop(2, false);
        manager.start(2, true);
        manager.stop(3, false);
        manager.restart(4, false);
        manager.start(5, false);
        stands("four jobs wait", manager, "322220", "2*/0 0/0 1/4 2/0 3/0 1/0");
        manager.restart(1, false);
        stands("they are cancelled, and what needs r fails", manager, "344440", "2*/0 0/3 0/4 0/4 0/4 0/2");
    }

    // ---- section 4: activations

    /** Section 4: "after startup ticks its activation ends (at once with 0; sockets and targets need 0)". */
    private static void endOfActivation() {
        ServiceManager manager = Check.made("service a;service b startup 0;service c startup 1;service d startup 100;socket s a 1;target t");
        startAll(manager);
        CHECK.due("at once", Check.states(manager), "221122");
        manager.advance(1);
        CHECK.due("after 1", Check.states(manager), "222122");
        manager.advance(98);
        CHECK.due("after 99", manager.stateOf(3), 1);
        manager.advance(1);
        CHECK.due("after 100", manager.stateOf(3), 2);
    }

    /** Section 4: "(its begins and activations are counted then)": also if the activation does not end. */
    private static void countedAtTheBegin() {
        ServiceManager manager = Check.made("service a startup 5 fails 1");
        manager.start(0, false);
        CHECK.due("begins() while it is activating", manager.begins(0), 1);
        CHECK.due("recentBegins() while it is activating", manager.recentBegins(0), 1);
        manager.stop(0, true);
        manager.start(0, false);
        CHECK.due("begins() then", manager.begins(0), 2);
        manager.advance(5);
        CHECK.due("the second activation does not fail", manager.stateOf(0), 2);
    }

    /** Section 4: "it fails: its job to start, if it has one, fails, and the unit exits with exit code 1". */
    private static void failedActivation() {
        ServiceManager manager = Check.made("service a fails 1 exit 9;service b startup 5 fails 1;target c;c requires b;c after b");
        manager.start(0, false);
        manager.start(2, false);
        stands("a has failed at once", manager, "410", "0/1 1*/-1 1/-1");
        manager.advance(5);
        stands("b has failed, and c by it", manager, "440", "0/1 0/1 0/2");
        for (int unit = 0; unit < 2; unit++) {
            CHECK.due("exitCode(" + unit + ")", manager.exitCode(unit), 1);
            CHECK.due("resultOf(" + unit + ")", manager.resultOf(unit), 1);
        }
    }

    /** Section 4: a failed activation: "its job to start, if it has one", and bound units are stopped only "if it was active". */
    private static void failedActivationWithoutJob() {
        ServiceManager manager = activatingWithoutJob("fails 1");
        manager.advance(9);
        stands("no job has failed", manager, "34", "2*/0 0/4");
        CHECK.due("exitCode()", manager.exitCode(1), 1);
        manager = Check.made("service a startup 5 fails 1;target b;b binds a");
        manager.start(1, false);
        manager.advance(5);
        stands("b, which is bound, stays", manager, "42", "0/1 0/0");
    }

    /** Section 4: a failed activation: a waiting restart "becomes a waiting job to start", and does not fail. */
    private static void failedActivationWithRestart() {
        ServiceManager manager = Check.made("service x startup 20;service a startup 5 fails 1 restart always;a after x");
        manager.start(1, false);
        manager.start(0, false);
        manager.restart(1, false);
        stands("the restart waits for x", manager, "11", "1*/-1 3/-1");
        manager.advance(5);
        stands("failed, whatever the policy is", manager, "14", "1*/-1 1/-1");
        manager.advance(15);
        stands("it is started then", manager, "21", "0/0 1*/-1");
    }

    /** Section 4: "(since the configuration was read or the unit was reset)". */
    private static void firstActivations() {
        ServiceManager manager = Check.made("service a fails 2");
        String due = "44244";
        for (int index = 0; index < 5; index++) {
            if (index == 3) {
                manager.stop(0, false);
                manager.reset(0);
            }
            manager.start(0, false);
            CHECK.due("the activation " + index, manager.stateOf(0), due.charAt(index) - '0');
        }
    }

    /** Section 4: "Otherwise the unit becomes active, and its job to start, if it has one, is done (even if it is waiting)". */
    private static void waitingStartIsDone() {
        ServiceManager manager = activatingWithoutJob("");
        manager.start(1, false);
        stands("its start waits", manager, "31", "2*/0 1/4");
        manager.advance(9);
        stands("it is done all the same", manager, "32", "2*/0 0/0");
        manager = activatingWithoutJob("");
        manager.advance(9);
        stands("without a job none is done", manager, "32", "2*/0 0/4");
    }

    // ---- section 4: stops

    /** Section 4: "after stopping ticks (at once with 0) it becomes inactive, with the result 0". */
    private static void endOfStopping() {
        ServiceManager manager = Check.made("service a;service b stopping 0;service c stopping 1;service d stopping 100;socket s a 1;target t");
        startAll(manager);
        manager.kill(3, 9);
        manager.start(3, false);
        CHECK.due("resultOf(d)", manager.resultOf(3), 1);
        for (int unit = 0; unit < 6; unit++) {
            manager.stop(unit, false);
        }
        CHECK.due("at once", Check.states(manager), "003300");
        manager.advance(1);
        CHECK.due("after 1", Check.states(manager), "000300");
        manager.advance(98);
        CHECK.due("after 99", manager.stateOf(3), 3);
        CHECK.due("resultOf(d) after 99", manager.resultOf(3), 1);
        manager.advance(1);
        CHECK.due("after 100", manager.stateOf(3), 0);
        CHECK.due("resultOf(d) after 100", manager.resultOf(3), 0);
        CHECK.due("exitCode(d) stays", manager.exitCode(3), 9);
    }

    /** Section 4: at the end of the stopping "a job to stop is done, and a job to restart becomes a waiting job to start". */
    private static void jobsAtTheEndOfStopping() {
        ServiceManager manager = Check.made("service a stopping 5;service b stopping 5;service c stopping 5;service x startup 50;b after x;c after x");
        for (int unit = 0; unit < 3; unit++) {
            manager.start(unit, false);
        }
        manager.stop(0, false);
        manager.restart(1, false);
        manager.stop(2, false);
        manager.start(3, true);
        manager.start(2, true);
        stands("a stop, a restart, and a start", manager, "3331", "2*/0 3*/0 1/4 1*/-1");
        manager.advance(5);
        stands("done, a start that waits for x, and the start that waited", manager, "0001", "0/0 1/0 1/4 1*/-1");
    }

    // ---- section 4: exits

    /** Section 4: "if it is 0 the result is 0, otherwise it is 1, and the exit code is kept": 0, 1 and 255. */
    private static void resultOfExit() {
        ServiceManager manager = Check.made("service a");
        for (int code : new int[] {0, 1, 255, 0}) {
            manager.start(0, false);
            CHECK.due("kill() with " + code, manager.kill(0, code), code == 0 ? 0 : 4);
            CHECK.due("resultOf() after " + code, manager.resultOf(0), code == 0 ? 0 : 1);
            CHECK.due("exitCode() after " + code, manager.exitCode(0), code);
        }
    }

    /** Section 4: "By the policy always, and by failure if the code is not 0"; "Otherwise it becomes inactive with the code 0, and failed". */
    private static void policies() {
        String[] words = {"never", "failure", "always"};
        int[][] states = {{0, 4, 4}, {0, 5, 5}, {5, 5, 5}};
        int[] codes = {0, 1, 255};
        for (int policy = 0; policy < 3; policy++) {
            for (int index = 0; index < 3; index++) {
                String what = words[policy] + " with the code " + codes[index];
                ServiceManager manager = Check.made("service a restart " + words[policy] + ";service b run 1 exit " + codes[index]
                    + " restart " + words[policy]);
                startAll(manager);
                CHECK.due("kill(): " + what, manager.kill(0, codes[index]), states[policy][index]);
                manager.advance(1);
                CHECK.due("an exit: " + what, manager.stateOf(1), states[policy][index]);
            }
        }
    }

    /** Section 4: "is started again after delay ticks (also if it is masked)". */
    private static void startedAgain() {
        ServiceManager manager = Check.made("service a restart always delay 3");
        manager.start(0, false);
        manager.kill(0, 0);
        manager.setMasked(0, true);
        manager.advance(2);
        stands("two ticks later", manager, "5", "0/0");
        CHECK.due("restarts() then", manager.restarts(0), 0);
        manager.advance(1);
        stands("three ticks later", manager, "2", "0/0");
        CHECK.due("restarts() at last", manager.restarts(0), 1);
    }

    /** Section 4: "it gets a waiting job to start then, unless it has a job already". */
    private static void hasAJobAlready() {
        ServiceManager manager = Check.made("service x startup 9;service a restart always delay 3;a after x");
        manager.start(1, false);
        manager.kill(1, 0);
        manager.start(0, false);
        manager.start(1, false);
        manager.advance(3);
        stands("its start waits for x", manager, "15", "1*/-1 1/0");
        CHECK.due("restarts() with a job", manager.restarts(1), 0);
        manager.cancel(1);
        stands("its start is cancelled", manager, "14", "1*/-1 0/4");
        manager.advance(9);
        CHECK.due("it is not started again", manager.stateOf(1), 4);
    }

    /** Section 4: "each unit that is bound to it and is in the state 1 or 2 is stopped": one in each state. */
    private static void boundUnits() {
        ServiceManager manager = Check.made("service a;service b;service c startup 9 stopping 9;service d stopping 9;service e stopping 9;service f run 1 exit 1;"
            + "service g run 1 restart always delay 9;b binds a;c binds a;d binds a;e binds a;f binds a;g binds a");
        for (int unit = 2; unit < 7; unit++) {
            manager.start(unit, false);
        }
        manager.stop(4, false);
        manager.advance(1);
        stands("one in each state", manager, "2012345", "0/0 0/-1 1*/-1 0/0 2*/0 0/0 0/0");
        manager.kill(0, 0);
        stands("c and d stop", manager, "0033345", "0/0 0/-1 2*/4 2*/0 2*/0 0/0 0/0");
        CHECK.due("since(e)", manager.since(4), 0);
    }

    /** Section 4: "In any case": bound units are stopped when the policy starts the unit again, too; not those that require it. */
    private static void boundInAnyCase() {
        ServiceManager manager = Check.made("service a restart always;target b;target c;target d;b binds a;c requires a;d requires b");
        startAll(manager);
        CHECK.due("kill()", manager.kill(0, 1), 5);
        CHECK.due("b stops, and with it d", Check.states(manager), "5020");
        manager.advance(1);
        CHECK.due("a is started again, b and d are not", Check.states(manager), "2020");
    }

    /** Section 4: bound units are stopped "in the order of the units". */
    private static void boundInOrder() {
        ServiceManager manager = Check.made("target d;target c;service a;target b;b binds a;c binds a;d binds a");
        startAll(manager);
        int logged = manager.logSize();
        manager.kill(2, 0);
        int[] units = {2, 0, 0, 1, 1, 3, 3};
        for (int index = 0; index < units.length; index++) {
            CHECK.due("the unit of the change " + index, manager.logEntry(logged + index, 1), units[index]);
        }
    }

    /** Section 4: bound units are stopped "by a transaction that replaces (if that fails, nothing happens)". */
    private static void boundStopFails() {
        ServiceManager manager = Check.made("service a;target b;target c;b binds a;c requires b;b after c;c after b");
        manager.start(1, false);
        manager.start(2, false);
        CHECK.due("kill()", manager.kill(0, 0), 0);
        stands("b and c are ordered in a circle", manager, "022", "0/0 0/0 0/0");
    }

    /** Section 4: "A job to stop that a unit has when it exits is done; ... whatever the policy is". */
    private static void stopAtAnExit() {
        for (int code : new int[] {0, 1, 255}) {
            ServiceManager manager = behindAStop("service a restart always", true);
            manager.stop(1, false);
            stands("its stop waits", manager, "32", "2*/0 2/0");
            CHECK.due("kill() with " + code, manager.kill(1, code), code == 0 ? 0 : 4);
            stands("it is done", manager, code == 0 ? "30" : "34", "2*/0 0/0");
            manager.advance(9);
            CHECK.due("it is not started again", manager.stateOf(1), code == 0 ? 0 : 4);
        }
    }

    /** Section 4: at an exit "a job to restart becomes a waiting job to start; in both cases the unit becomes inactive ..., and failed". */
    private static void restartAtAnExit() {
        for (int code : new int[] {0, 1, 255}) {
            ServiceManager manager = behindAStop("service a restart always", true);
            manager.restart(1, false);
            stands("its restart waits", manager, "32", "2*/0 3/0");
            CHECK.due("kill() with " + code, manager.kill(1, code), code == 0 ? 0 : 4);
            stands("it is a start now", manager, code == 0 ? "30" : "34", "2*/0 1/0");
            manager.advance(50);
            stands("which runs after x", manager, "02", "0/0 0/0");
            CHECK.due("restarts()", manager.restarts(1), 0);
        }
    }

    /** Section 4: "A job ... that a unit has when it exits": one that was cancelled before is none, and the policy holds. */
    private static void cancelledBeforeAnExit() {
        for (int type = START; type <= RESTART; type++) {
            ServiceManager manager = behindAStop("service a restart always", true);
            if (type == RESTART) {
                manager.restart(1, false);
            } else {
                manager.stop(1, false);
            }
            if (type == START) {
                manager.start(1, true);
            }
            CHECK.due("the job", manager.jobOf(1), type);
            manager.cancel(1);
            CHECK.due("kill() after a cancelled job " + type, manager.kill(1, 0), 5);
        }
    }

    /** Section 4: a job to start that an active unit has when it exits stays, and the policy holds. */
    private static void startAtAnExit() {
        ServiceManager manager = behindAStop("service a restart failure", true);
        manager.stop(1, false);
        manager.start(1, true);
        stands("its start waits", manager, "32", "2*/0 1/4");
        CHECK.due("kill()", manager.kill(1, 1), 5);
        stands("it waits for its restart, too", manager, "35", "2*/0 1/4");
        manager.advance(50);
        stands("it was started once", manager, "02", "0/0 0/0");
        CHECK.due("begins()", manager.begins(1), 2);
    }

    // ---- section 4: what follows from a job that fails

    /** Section 4: "all waiting jobs to start or restart of units that need this unit fail by their dependencies, and so on". */
    private static void whatNeedsItFails() {
        ServiceManager manager = Check.made("service a startup 9 fails 1;target b;target c;target d;target e;target f;target g;b requires a;c binds b;"
            + "d wants a;e partof a;f after c;b after a;c after a;d after a;e after a;f after a;g requires c;g after c");
        manager.start(6, false);
        manager.start(3, false);
        manager.start(4, false);
        manager.start(5, false);
        stands("six wait", manager, "1000000", "1*/-1 1/-1 1/-1 1/-1 1/-1 1/-1 1/-1");
        manager.advance(9);
        stands("b, c and g fail", manager, "4002220", "0/1 0/2 0/2 0/0 0/0 0/0 0/2");
        manager = Check.made("target a;service b startup 9 fails 1;a requires b;a after b;service x startup 50;a after x");
        manager.start(2, false);
        manager.start(0, false);
        manager.advance(9);
        stands("a unit before it fails at once, though it waits for x, too", manager, "041", "0/2 0/1 1*/-1");
    }

    /** Section 4: "all waiting jobs to start or restart": a restart fails, too; running jobs and jobs to stop do not. */
    private static void onlyWaitingJobsFail() {
        ServiceManager manager = Check.made("service x stopping 50;service a startup 60 fails 1;service b startup 90;service c;service d;"
            + "b requires a;c requires a;d requires a;x after c;x after d");
        startAll(manager);
        manager.stop(0, false);
        manager.restart(3, false);
        manager.stop(4, false);
        stands("b is running, c and d wait", manager, "31122", "2*/0 1*/-1 1*/-1 3/0 2/0");
        manager.kill(1, 1);
        stands("c fails and stays active", manager, "34122", "2*/0 0/1 1*/-1 0/2 2/0");
    }

    /** Section 4: a job "to start or restart" that is cancelled: from the cancelled stop nothing follows. */
    private static void cancelledStop() {
        ServiceManager manager = Check.made("service x stopping 50;service a;service b;x after a;x after b;b requires a");
        startAll(manager);
        manager.stop(0, false);
        manager.stop(1, false);
        stands("both are to stop", manager, "322", "2*/0 2/0 2/0");
        CHECK.due("cancel()", manager.cancel(1), 2);
        stands("the stop of a is cancelled", manager, "322", "2*/0 0/4 2/0");
    }

    /** An object in which a and b, which needs it, wait for their restart, each with a start that waits for x. */
    private static ServiceManager inStateFive() {
        ServiceManager manager = Check.made("service x startup 9;service a restart always delay 50;service b restart always delay 50;"
            + "b requires a;a after x;b after x");
        manager.start(2, false);
        manager.kill(2, 7);
        manager.kill(1, 0);
        manager.start(0, false);
        manager.start(2, false);
        stands("both wait in the state 5", manager, "155", "1*/-1 1/0 1/0");
        return manager;
    }

    /** Section 4: a unit in the state 5 whose job "fails by its dependencies, or that cancel(int) cancels ... becomes failed; its result stays". */
    private static void failedInStateFive() {
        ServiceManager manager = inStateFive();
        int logged = manager.logSize();
        CHECK.due("cancel()", manager.cancel(1), 1);
        stands("a is cancelled, b fails by it", manager, "144", "1*/-1 0/4 0/2");
        CHECK.due("the result of a", manager.resultOf(1), 0);
        CHECK.due("the result of b", manager.resultOf(2), 1);
        CHECK.due("a has failed before b", manager.logEntry(logged, 1) * 10 + manager.logEntry(logged + 1, 1), 12);
    }

    /** Section 4: only cancel(int): a job that is replaced by one to stop leaves the state 5, "before anything follows from this". */
    private static void replacedInStateFive() {
        ServiceManager manager = inStateFive();
        manager.stop(2, true);
        stands("b is stopped, not failed", manager, "150", "1*/-1 1/0 0/0");
        manager = inStateFive();
        int logged = manager.logSize();
        manager.stop(1, true);
        stands("a is stopped, b failed by it before", manager, "104", "1*/-1 0/0 0/0");
        CHECK.due("b has failed before a was inactive", manager.logEntry(logged, 1) * 10 + manager.logEntry(logged + 1, 1), 21);
    }

    /** Section 4: in the states 0 and 4 a unit keeps its state when its job is cancelled. */
    private static void keepsItsState() {
        ServiceManager manager = Check.made("service x startup 9;service a;service b run 1 exit 1;a after x;b after x");
        manager.start(2, false);
        manager.advance(1);
        manager.start(0, false);
        manager.start(1, false);
        manager.start(2, false);
        manager.cancel(1);
        manager.cancel(2);
        stands("both are cancelled", manager, "104", "1*/-1 0/4 0/4");
    }

    /** Section 4: cancel(int) of "a job to start or restart": that of a stop leaves the state 5. */
    private static void cancelledStopInStateFive() {
        ServiceManager manager = behindAStop("service a restart always delay 20", true);
        manager.kill(1, 0);
        manager.stop(1, false);
        stands("its stop waits", manager, "35", "2*/0 2/0");
        CHECK.due("cancel()", manager.cancel(1), 1);
        stands("it stays", manager, "35", "2*/0 0/4");
        manager.advance(20);
        stands("it gets its start", manager, "35", "2*/0 1/4");
    }

    // ---- promises 17 to 22

    /** Promise 17: "WRONG_STATE if the unit has no waiting job": without a job, and with one that is running. */
    private static void cancelWithoutWaitingJob() {
        ServiceManager manager = Check.made("service a startup 9;service b stopping 9;service c stopping 9;target d");
        startAll(manager);
        manager.stop(1, false);
        manager.restart(2, false);
        CHECK.refused("cancel() of a running start", manager, () -> manager.cancel(0), WRONG_STATE);
        CHECK.refused("cancel() of a running stop", manager, () -> manager.cancel(1), WRONG_STATE);
        CHECK.refused("cancel() of a running restart", manager, () -> manager.cancel(2), WRONG_STATE);
        CHECK.refused("cancel() without a job", manager, () -> manager.cancel(3), WRONG_STATE);
    }

    /** Promise 17: "Cancels the job of a unit if it is waiting": to start, to stop, to restart. */
    private static void cancelOfEachType() {
        ServiceManager manager = Check.made("service x stopping 50;service a;service b;service c;x after a;x after b;x after c");
        manager.start(0, false);
        manager.start(2, false);
        manager.start(3, false);
        manager.stop(0, false);
        manager.start(1, false);
        manager.stop(2, false);
        manager.restart(3, false);
        stands("three wait", manager, "3022", "2*/0 1/-1 2/0 3/0");
        CHECK.due("cancel() of a start", manager.cancel(1), 3);
        CHECK.due("cancel() of a stop", manager.cancel(2), 2);
        CHECK.due("cancel() of a restart", manager.cancel(3), 1);
        stands("all are cancelled", manager, "3022", "2*/0 0/4 0/4 0/4");
    }

    /** Promise 17: "Returns the number of jobs in the queue then (after running jobs)". */
    private static void cancelRunsJobs() {
        ServiceManager manager = Check.made("service x startup 9;service a;service b;service c;b after a;c after b;a after x");
        startAll(manager);
        stands("three wait", manager, "1000", "1*/-1 1/-1 1/-1 1/-1");
        CHECK.due("cancel() of a: b and c run", manager.cancel(1), 1);
        stands("then", manager, "1022", "1*/-1 0/4 0/0 0/0");
    }

    /** Promises 17 to 20 and 22: "if there is no such unit". */
    private static void noSuchUnit() {
        ServiceManager manager = targets(2, "");
        for (int unit : new int[] {-1, 2, 16, Integer.MIN_VALUE, Integer.MAX_VALUE}) {
            CHECK.noSuchUnit("cancel(" + unit + ")", manager, () -> manager.cancel(unit));
            CHECK.noSuchUnit("jobOf(" + unit + ")", manager, () -> manager.jobOf(unit));
            CHECK.noSuchUnit("isRunning(" + unit + ")", manager, () -> manager.isRunning(unit) ? 1 : 0);
            CHECK.noSuchUnit("precedingJobs(" + unit + ")", manager, () -> manager.precedingJobs(unit));
            CHECK.noSuchUnit("outcomeOf(" + unit + ")", manager, () -> manager.outcomeOf(unit));
        }
    }

    /** Promise 18: "Returns 0 no job, 1 to start, 2 to stop, 3 to restart". */
    private static void jobOf() {
        ServiceManager manager = Check.made("service a;service b startup 9;service c stopping 9;service d stopping 9");
        manager.start(1, false);
        manager.start(2, false);
        manager.start(3, false);
        manager.stop(2, false);
        manager.restart(3, false);
        for (int unit = 0; unit < 4; unit++) {
            CHECK.due("jobOf(" + unit + ")", manager.jobOf(unit), unit);
        }
    }

    /** Promise 19: "Returns true if it has a job that is running": not without a job, not if it is waiting. */
    private static void isRunning() {
        ServiceManager manager = Check.made("target x;service a startup 9;service b;b after a");
        manager.start(1, false);
        manager.start(2, false);
        CHECK.due("without a job", manager.isRunning(0), false);
        CHECK.due("with a running job", manager.isRunning(1), true);
        CHECK.due("with a waiting job", manager.isRunning(2), false);
        manager.advance(9);
        CHECK.due("when it has ended", manager.isRunning(1), false);
    }

    /** Promise 20: "0 if the unit has no job"; the set of all fifteen others. */
    private static void precedingJobs() {
        StringBuilder text = new StringBuilder("service a startup 9");
        for (int unit = 1; unit < 16; unit++) {
            char name = (char) ('a' + unit);
            text.append(";service ").append(name).append(" startup 9;a wants ").append(name).append(";a after ").append(name);
        }
        ServiceManager manager = Check.made(text.toString());
        CHECK.due("precedingJobs() without jobs", manager.precedingJobs(0), 0);
        manager.start(1, false);
        CHECK.due("precedingJobs() of a unit without a job", manager.precedingJobs(0), 0);
        manager.start(0, false);
        CHECK.due("precedingJobs() with sixteen jobs", manager.precedingJobs(0), 0xFFFE);
        CHECK.due("precedingJobs() of what comes first", manager.precedingJobs(15), 0);
    }

    /** Promise 21: "Returns 0 to 16". */
    private static void queueLength() {
        ServiceManager manager = Check.made(Check.targets(15, ";service x startup 9"));
        CHECK.due("queueLength() of an empty queue", manager.queueLength(), 0);
        StringBuilder text = new StringBuilder("service a startup 9");
        for (int unit = 1; unit < 16; unit++) {
            text.append(";service ").append((char) ('a' + unit)).append(" startup 9");
        }
        Check.reload(manager, text.toString());
        for (int unit = 0; unit < 16; unit++) {
            manager.start(unit, false);
            CHECK.due("queueLength() of " + (unit + 1), manager.queueLength(), unit + 1);
        }
        manager.start(15, false);
        CHECK.due("queueLength() of a full queue", manager.queueLength(), 16);
        manager.advance(9);
        CHECK.due("queueLength() at last", manager.queueLength(), 0);
    }

    /** Promise 22 and section 4: "Returns 0 to 4; NONE if no job of it has ended". */
    private static void outcomeOf() {
        ServiceManager manager = Check.made("service a;service b fails 1;service c;service d limit 1 9;service e;service f startup 9;"
            + "c requires b;c after b;e after f");
        CHECK.due("no job", manager.outcomeOf(0), NONE);
        manager.start(5, false);
        CHECK.due("a job that has not ended", manager.outcomeOf(5), NONE);
        manager.start(0, false);
        manager.start(2, false);
        manager.start(3, false);
        manager.restart(3, false);
        manager.start(4, false);
        manager.cancel(4);
        for (int outcome = 0; outcome <= 4; outcome++) {
            CHECK.due("outcomeOf(" + outcome + ")", manager.outcomeOf(outcome), outcome);
        }
        manager.advance(9);
        manager.start(4, false);
        CHECK.due("the latest job counts", manager.outcomeOf(4), 0);
    }

    private static void whatRuns() {
        visitedInOrder();
        againAndAgain();
        noJobPrecedes();
        notInStateThree();
        stopInStatesZeroAndFour();
        stopInStateFive();
        stopInOtherStates();
        restartOfWhatIsDown();
        restartOfWhatIsUp();
        startInStateTwo();
        startInStateOne();
        neededMustBeActive();
        neededMayBeActivating();
        neededIsActivatingWithoutJob();
        neededInOtherStates();
        neededMayHaveAJob();
        limit();
        leastLimit();
        greatestLimit();
        limitWithoutWords();
        noLimitForOthers();
        failsByLimit();
        socketsOfTheLimit();
        jobsOfSockets();
    }

    private static void beginsAndEnds() {
        endOfActivation();
        countedAtTheBegin();
        failedActivation();
        failedActivationWithoutJob();
        failedActivationWithRestart();
        firstActivations();
        waitingStartIsDone();
        endOfStopping();
        jobsAtTheEndOfStopping();
        resultOfExit();
        policies();
        startedAgain();
        hasAJobAlready();
        boundUnits();
        boundInAnyCase();
        boundInOrder();
        boundStopFails();
        stopAtAnExit();
        restartAtAnExit();
        cancelledBeforeAnExit();
        startAtAnExit();
        whatNeedsItFails();
        onlyWaitingJobsFail();
        cancelledStop();
        failedInStateFive();
        replacedInStateFive();
        keepsItsState();
        cancelledStopInStateFive();
    }

    public static void main(String[] args) {
        whatRuns();
        beginsAndEnds();
        cancelWithoutWaitingJob();
        cancelOfEachType();
        cancelRunsJobs();
        noSuchUnit();
        jobOf();
        isRunning();
        precedingJobs();
        queueLength();
        outcomeOf();
        CHECK.finish();
    }
}
