/** Promises 29 to 42: states, results, times, numbers of begins, connections, and the log. */
public final class StatesTest {

    private static final int NONE = ServiceManager.NONE;
    private static final Check CHECK = new Check();

    private static void sixStates() {
        ServiceManager manager = Check.made("service a;service b startup 5;target c;service d stopping 5;service e run 1 exit 1;"
            + "service f run 1 restart always delay 5;socket g a 1");
        CHECK.due("inState(0) at first", manager.inState(0), 0b1111111);
        for (int unit = 1; unit < 6; unit++) {
            manager.start(unit, false);
        }
        manager.stop(3, false);
        manager.advance(1);
        for (int state = 0; state <= 5; state++) {
            CHECK.due("stateOf(" + state + ")", manager.stateOf(state), state);
            CHECK.due("inState(" + state + ")", manager.inState(state), state == 0 ? 0b1000001 : 1 << state);
        }
        manager.start(6, false);
        CHECK.due("inState(2) with a socket", manager.inState(2), 0b1000100);
        CHECK.due("stateOf() of a socket", manager.stateOf(6), 2);
    }

    private static void results() {
        ServiceManager manager = Check.made("service a run 2 exit 200 limit 2 100;socket s a 3;service b run 2;target t");
        CHECK.due("resultOf() at first", manager.resultOf(0), 0);
        CHECK.due("exitCode() at first", manager.exitCode(0), 0);
        CHECK.due("exitCode() of a socket", manager.exitCode(1), 0);
        manager.start(0, false);
        manager.start(2, false);
        manager.advance(2);
        CHECK.due("resultOf() after an exit with a code", manager.resultOf(0), 1);
        CHECK.due("exitCode() after it", manager.exitCode(0), 200);
        CHECK.due("resultOf() after an exit with 0", manager.resultOf(2), 0);
        CHECK.due("exitCode() after it", manager.exitCode(2), 0);
        manager.start(0, false);
        CHECK.due("resultOf() while it runs again", manager.resultOf(0), 1);
        manager.stop(0, false);
        CHECK.due("resultOf() after a stop", manager.resultOf(0), 0);
        CHECK.due("exitCode() after a stop", manager.exitCode(0), 200);
        manager.start(1, false);
        manager.start(0, false);
        CHECK.due("resultOf() after the limit", manager.resultOf(0), 3);
        CHECK.due("stateOf() after the limit", manager.stateOf(0), 4);
        CHECK.due("resultOf() of its socket", manager.resultOf(1), 3);
        CHECK.due("stateOf() of its socket", manager.stateOf(1), 4);
        manager.start(1, false);
        CHECK.due("resultOf() of the socket that is active again", manager.resultOf(1), 3);
        manager.stop(1, false);
        CHECK.due("resultOf() of the socket that was stopped", manager.resultOf(1), 0);
        CHECK.due("resultOf() of a target", manager.resultOf(3), 0);
        manager.start(2, false);
        manager.kill(2, 255);
        CHECK.due("exitCode() after kill()", manager.exitCode(2), 255);
        manager.start(2, false);
        manager.kill(2, 0);
        CHECK.due("exitCode() after kill() with 0", manager.exitCode(2), 0);
        CHECK.due("resultOf() after kill() with 0", manager.resultOf(2), 0);
    }

    private static void times() {
        ServiceManager manager = Check.made("service a startup 3 stopping 4 run 9 idle 20 restart always delay 7;service b idle 6 run 9;"
            + "socket s b 2;target t;service c");
        CHECK.due("since() at first", manager.since(0), 0);
        CHECK.due("dueAt() in the state 0", manager.dueAt(0), NONE);
        manager.advance(10);
        manager.start(0, false);
        manager.start(1, false);
        manager.start(2, false);
        manager.start(3, false);
        manager.start(4, false);
        CHECK.due("since() of what is starting", manager.since(0), 10);
        CHECK.due("dueAt() in the state 1", manager.dueAt(0), 13);
        CHECK.due("dueAt() of what goes when idle", manager.dueAt(1), 16);
        CHECK.due("dueAt() of a socket", manager.dueAt(2), NONE);
        CHECK.due("dueAt() of a target", manager.dueAt(3), NONE);
        CHECK.due("dueAt() of what runs for ever", manager.dueAt(4), NONE);
        manager.advance(3);
        CHECK.due("since() of what is active", manager.since(0), 13);
        CHECK.due("dueAt() of what exits", manager.dueAt(0), 22);
        manager.connect(2, 1);
        CHECK.due("since() after a connection", manager.since(1), 10);
        CHECK.due("dueAt() after a connection", manager.dueAt(1), 19);
        manager.advance(2);
        manager.connect(2, 1);
        CHECK.due("dueAt() after another one", manager.dueAt(1), 19);
        manager.advance(7);
        CHECK.due("dueAt() in the state 5", manager.dueAt(0), 29);
        CHECK.due("since() in the state 5", manager.since(0), 22);
        manager.advance(7);
        CHECK.due("dueAt() after the restart", manager.dueAt(0), 32);
        manager.stop(0, true);
        CHECK.due("dueAt() in the state 3", manager.dueAt(0), 33);
        manager.advance(4);
        CHECK.due("since() of what has stopped", manager.since(0), 33);
        CHECK.due("dueAt() of what has stopped", manager.dueAt(0), NONE);
        manager.restart(4, false);
        CHECK.due("since() after a restart", manager.since(4), 33);
    }

    private static void numbers() {
        ServiceManager manager = Check.made("service a run 2 restart always delay 1 limit 9 1000;socket s a 1;target t;service b limit 2 3");
        CHECK.due("begins() at first", manager.begins(0), 0);
        CHECK.due("recentBegins() at first", manager.recentBegins(0), 0);
        CHECK.due("restarts() at first", manager.restarts(0), 0);
        manager.start(0, false);
        manager.advance(24);
        CHECK.due("begins()", manager.begins(0), 9);
        CHECK.due("recentBegins()", manager.recentBegins(0), 9);
        CHECK.due("restarts()", manager.restarts(0), 8);
        manager.advance(10);
        CHECK.due("begins() at the limit", manager.begins(0), 9);
        CHECK.due("restarts() at the limit", manager.restarts(0), 9);
        CHECK.due("stateOf() at the limit", manager.stateOf(0), 4);
        manager.advance(966);
        CHECK.due("time()", manager.time(), 1000);
        CHECK.due("recentBegins() when one is too old", manager.recentBegins(0), 8);
        manager.start(0, false);
        CHECK.due("begins() then", manager.begins(0), 10);
        CHECK.due("recentBegins() then", manager.recentBegins(0), 9);
        for (int again = 0; again < 12; again++) {
            manager.restart(1, false);
            manager.restart(2, false);
        }
        CHECK.due("begins() of a socket", manager.begins(1), 12);
        CHECK.due("begins() of a target", manager.begins(2), 12);
        CHECK.due("recentBegins() of a socket", manager.recentBegins(1), NONE);
        CHECK.due("recentBegins() of a target", manager.recentBegins(2), NONE);
        manager.start(3, false);
        manager.advance(2);
        CHECK.due("recentBegins() within the interval", manager.recentBegins(3), 1);
        manager.advance(1);
        CHECK.due("recentBegins() at its end", manager.recentBegins(3), 0);
        CHECK.due("begins() stays", manager.begins(3), 1);
    }

    private static void connections() {
        ServiceManager manager = Check.made("service a startup 2;socket s a 2;target t");
        for (int unit : new int[] {0, 2}) {
            CHECK.due("queued() of no socket", manager.queued(unit), NONE);
            CHECK.due("accepted() of no socket", manager.accepted(unit), NONE);
            CHECK.due("lost() of no socket", manager.lost(unit), NONE);
        }
        CHECK.due("queued() at first", manager.queued(1), 0);
        CHECK.due("accepted() at first", manager.accepted(1), 0);
        CHECK.due("lost() at first", manager.lost(1), 0);
        manager.start(1, false);
        manager.connect(1, 3);
        CHECK.due("queued()", manager.queued(1), 2);
        CHECK.due("lost() by refusing", manager.lost(1), 1);
        manager.stop(1, false);
        CHECK.due("queued() of an inactive socket", manager.queued(1), 0);
        CHECK.due("lost() by dropping", manager.lost(1), 3);
        manager.start(1, false);
        manager.connect(1, 1);
        manager.advance(2);
        CHECK.due("accepted()", manager.accepted(1), 1);
        CHECK.due("queued() then", manager.queued(1), 0);
        CHECK.due("lost() stays", manager.lost(1), 3);
    }

    private static void theLog() {
        ServiceManager manager = Check.made("service a startup 2 stopping 1;target b;service c run 1 exit 1;b requires a");
        CHECK.due("logSize() at first", manager.logSize(), 0);
        CHECK.due("logEntry(0, 0) of an empty log", manager.logEntry(0, 0), NONE);
        manager.start(1, false);
        CHECK.due("the log of a start", Check.log(manager), "0:0:1 0:1:1 0:1:2");
        manager.advance(2);
        manager.start(0, false);
        manager.start(2, false);
        manager.advance(1);
        CHECK.due("the log then", Check.log(manager), "0:0:1 0:1:1 0:1:2 2:0:2 2:2:1 2:2:2 3:2:4");
        manager.stop(0, false);
        manager.reset(2);
        CHECK.due("the log of a stop", Check.log(manager),
            "0:0:1 0:1:1 0:1:2 2:0:2 2:2:1 2:2:2 3:2:4 3:0:3 3:1:3 3:1:0 3:2:0");
        for (int what = 0; what < 3; what++) {
            CHECK.due("logEntry(-1, " + what + ")", manager.logEntry(-1, what), NONE);
            CHECK.due("logEntry(11, " + what + ")", manager.logEntry(11, what), NONE);
            CHECK.due("logEntry(MIN, " + what + ")", manager.logEntry(Integer.MIN_VALUE, what), NONE);
            CHECK.due("logEntry(MAX, " + what + ")", manager.logEntry(Integer.MAX_VALUE, what), NONE);
        }
    }

    private static void fullLog() {
        ServiceManager manager = Check.made("target a;target b");
        for (int time = 1; time <= 300; time++) {
            manager.advance(1);
            manager.start(time % 2, false);
            CHECK.due("logSize() at " + time, manager.logSize(), Math.min(60, 4 * time - 2));
            manager.stop(time % 2, false);
            CHECK.due("logSize() after the stop at " + time, manager.logSize(), Math.min(60, 4 * time));
            int oldest = Math.max(0, 4 * time - 60);
            for (int index = 0; index < manager.logSize(); index++) {
                int change = oldest + index;
                int due = change / 4 + 1;
                CHECK.due("the time of an entry", manager.logEntry(index, 0), due);
                CHECK.due("the unit of an entry", manager.logEntry(index, 1), due % 2);
                CHECK.due("the state of an entry", manager.logEntry(index, 2), (change + 1) % 4);
            }
        }
        CHECK.due("logEntry(60, 0)", manager.logEntry(60, 0), NONE);
        CHECK.due("logEntry(59, 0)", manager.logEntry(59, 0), 300);
    }

    public static void main(String[] args) {
        sixStates();
        results();
        times();
        numbers();
        connections();
        theLog();
        fullLog();
        CHECK.finish();
    }
}
