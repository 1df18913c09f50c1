/** Section 3 and promises 12 to 16: a test for each sentence that names a boundary case. */
public final class EdgesOfTransactionsTest {

    private static final int NONE = ServiceManager.NONE;
    private static final int CONFLICT = ServiceManager.CONFLICT;
    private static final int CYCLE = ServiceManager.CYCLE;
    private static final int BUSY = ServiceManager.BUSY;
    private static final int MASKED = ServiceManager.MASKED;
    private static final int START = 1;
    private static final int STOP = 2;
    private static final int RESTART = 3;
    private static final Check CHECK = new Check();

    private static ServiceManager targets(int count, String relations) {
        return Check.made(Check.targets(count, relations));
    }

    /** Sixteen units, each of which needs the one before and is ordered after it; the first one takes its time. */
    private static ServiceManager chain() {
        StringBuilder text = new StringBuilder("service a startup 9 stopping 9");
        for (int unit = 1; unit < 16; unit++) {
            char one = (char) ('a' + unit);
            char before = (char) (one - 1);
            text.append(";target ").append(one).append(';').append(one).append(" requires ").append(before);
            text.append(';').append(one).append(" after ").append(before);
        }
        return Check.made(text.toString());
    }

    private static int called(ServiceManager manager, int unit, int type, boolean replace) {
        if (type == START) {
            return manager.start(unit, replace);
        }
        return type == STOP ? manager.stop(unit, replace) : manager.restart(unit, replace);
    }

    /** The jobs of a plan: to start, to stop, to restart, and the essential ones. */
    private static void planned(String what, ServiceManager manager, int unit, int type, int... due) {
        for (int which = 1; which <= 4; which++) {
            CHECK.due(what + ": plan(" + unit + ", " + type + ", " + which + ")", manager.plan(unit, type, which), due[which - 1]);
        }
        CHECK.due(what + ": plan(" + unit + ", " + type + ", 0)", manager.plan(unit, type, 0), due[0] | due[1] | due[2]);
    }

    /** How many jobs the transactions to start, to stop and to restart a unit have. */
    private static void sizes(String what, ServiceManager manager, int unit, int... due) {
        for (int type = START; type <= RESTART; type++) {
            CHECK.due(what + ": jobs of the type " + type, Integer.bitCount(manager.plan(unit, type, 0)), due[type - 1]);
        }
    }

    /** A call that fails, whether it replaces or not, changes nothing. */
    private static void fails(String what, ServiceManager manager, int unit, int type, int code) {
        for (int which = 0; which <= 4; which++) {
            int one = which;
            CHECK.refused(what + ": plan(.., .., " + which + ")", manager, () -> manager.plan(unit, type, one), code);
        }
        CHECK.refused(what + ": planDepth()", manager, () -> manager.planDepth(unit, type), code);
        CHECK.refused(what + ": the call that does not replace", manager, () -> called(manager, unit, type, false), code);
        CHECK.refused(what + ": the call that replaces", manager, () -> called(manager, unit, type, true), code);
    }

    // ---- section 3: which jobs are pulled in

    /** Section 3: "a set of jobs, at most one for each unit in the end": from none to sixteen. */
    private static void atMostOneJobForEachUnit() {
        ServiceManager manager = chain();
        planned("sixteen starts", manager, 15, START, 0xFFFF, 0, 0, 0xFFFF);
        CHECK.due("start() of sixteen", manager.start(15, false), 16);
        CHECK.due("a full queue", manager.queueLength(), 16);
        CHECK.due("start() with a full queue", manager.start(15, false), 16);
        CHECK.due("the queue is no longer", manager.queueLength(), 16);
        CHECK.due("stop() that replaces a full queue", manager.stop(0, true), 16);
        CHECK.due("a waits for nothing, and stops", Check.states(manager), "3000000000000000");
        CHECK.due("start() of all again", manager.start(15, true), 16);
        manager.advance(9);
        CHECK.due("start() of a after its stop", Check.states(manager), "1000000000000000");
    }

    /** Section 3: "The first job is that of the call; it is essential". */
    private static void firstJobIsEssential() {
        ServiceManager manager = targets(2, ";b wants a");
        planned("a start alone", manager, 0, START, 1, 0, 0, 1);
        planned("a restart alone", manager, 0, RESTART, 0, 0, 1, 1);
        manager.start(0, false);
        planned("a stop alone", manager, 0, STOP, 0, 1, 0, 1);
    }

    /** Section 3: "A job to start or to restart u pulls in: jobs to start all units that u needs". */
    private static void startPullsNeeds() {
        ServiceManager manager = targets(7, ";a requires b;a binds c;a partof d;a after e;f requires a;g binds a");
        planned("what a start pulls in", manager, 0, START, 0b111, 0, 0, 0b111);
        planned("what a restart pulls in", manager, 0, RESTART, 0b110, 0, 0b001, 0b111);
    }

    /** Section 3: "jobs to start all units that u wants, which are not essential"; nor what they pull in. */
    private static void startPullsWants() {
        ServiceManager manager = targets(5, ";a wants b;b requires c;b wants d;e wants a");
        planned("what a start wants", manager, 0, START, 0b01111, 0, 0, 0b00001);
        planned("what a restart wants", manager, 0, RESTART, 0b01110, 0, 0b00001, 0b00001);
    }

    /** Section 3: "jobs to stop all opponents of u", in both directions. */
    private static void startPullsStops() {
        ServiceManager manager = targets(4, ";a conflicts b;c conflicts a;d wants a");
        manager.start(1, false);
        manager.start(2, false);
        planned("the opponents of a start", manager, 0, START, 0b0001, 0b0110, 0, 0b0111);
        planned("the opponents of a restart", manager, 0, RESTART, 0, 0b0110, 0b0001, 0b0111);
        planned("the opponents of what is wanted", manager, 3, START, 0b1001, 0b0110, 0, 0b1000);
        manager = targets(5, ";a wants b;b conflicts c;d requires c;e partof d");
        manager.start(3, false);
        manager.start(4, false);
        planned("what follows the opponents of what is wanted", manager, 0, START, 0b00011, 0b11100, 0, 0b00001);
    }

    /** Section 3: "A job to stop u pulls in jobs to stop all units that follow u". */
    private static void stopPullsFollowers() {
        ServiceManager manager = targets(7, ";b requires a;c binds a;d partof a;e wants a;f after a;g requires d");
        for (int unit = 0; unit < 7; unit++) {
            manager.start(unit, false);
        }
        planned("what a stop pulls in", manager, 0, STOP, 0, 0b1001111, 0, 0b1001111);
    }

    /** Section 3: "jobs to restart all units that follow u and are in the state 1, 2, 3 or 5"; not in 0 and 4. */
    private static void restartPullsFollowers() {
        ServiceManager manager = Check.made("service a;service b startup 9;target c;service d stopping 9;service e run 1 exit 1;"
            + "service f run 1 restart always delay 9;target g;a partof g;b partof g;c partof g;d partof g;e partof g;f partof g");
        for (int unit = 1; unit < 7; unit++) {
            manager.start(unit, false);
        }
        manager.stop(3, false);
        manager.advance(1);
        CHECK.due("one in each state", Check.states(manager), "0123452");
        planned("what a restart pulls in", manager, 6, RESTART, 0, 0, 0b1101110, 0b1101110);
    }

    /** Section 3: "A job that is pulled in several times, at least once by an essential job (not by wants), is essential". */
    private static void pulledInSeveralTimes() {
        planned("wanted, and then required", targets(3, ";a wants b;a requires c;c requires b"), 0, START, 0b111, 0, 0, 0b111);
        planned("required, and then wanted", targets(3, ";a requires b;a requires c;c wants b"), 0, START, 0b111, 0, 0, 0b111);
        planned("wanted twice", targets(3, ";a wants b;a requires c;c wants b"), 0, START, 0b111, 0, 0, 0b101);
        planned("required by what is wanted", targets(3, ";a wants b;a wants c;c requires b"), 0, START, 0b111, 0, 0, 0b001);
    }

    /** Section 3: "A unit with a job to start and a job to restart has only the job to restart". */
    private static void startAndRestart() {
        ServiceManager manager = targets(3, ";b requires a;a wants b;c requires b");
        manager.start(2, false);
        planned("wanted, and restarted", manager, 0, RESTART, 0, 0, 0b111, 0b111);
        manager = targets(2, ";a requires b;b requires a");
        manager.start(0, false);
        planned("in a circle of needs", manager, 0, RESTART, 0, 0, 0b11, 0b11);
    }

    // ---- section 3: masked units

    /** Section 3: a unit that is masked: "if the job is essential, the transaction fails (MASKED)". */
    private static void maskedAndEssential() {
        ServiceManager manager = targets(3, ";a requires b;c partof a");
        manager.start(2, false);
        manager.start(0, false);
        manager.setMasked(1, true);
        fails("the unit itself", manager, 1, START, MASKED);
        fails("the unit itself to restart", manager, 1, RESTART, MASKED);
        fails("what is needed, though it is active", manager, 0, START, MASKED);
        manager.setMasked(1, false);
        manager.setMasked(2, true);
        fails("what is restarted with it", manager, 0, RESTART, MASKED);
        CHECK.due("start() without a masked unit", manager.start(0, false), 0);
    }

    /** Section 3: "otherwise the job is left out, and so is what it alone would pull in". */
    private static void maskedAndNotEssential() {
        ServiceManager manager = targets(6, ";a wants b;b requires c;b conflicts d;a wants e;b requires e;b wants f");
        manager.start(3, false);
        planned("before it is masked", manager, 0, START, 0b110111, 0b001000, 0, 0b000001);
        manager.setMasked(1, true);
        planned("when it is masked", manager, 0, START, 0b010001, 0, 0, 0b000001);
        CHECK.due("start()", manager.start(0, false), 2);
        CHECK.due("what is active then", manager.inState(2), 0b011001);
    }

    /** Section 3: "would get a job to start or restart": a job to stop is no matter for a masked unit. */
    private static void maskedAndStopped() {
        ServiceManager manager = targets(3, ";a conflicts b;c requires b");
        manager.start(2, false);
        manager.setMasked(1, true);
        manager.setMasked(2, true);
        planned("a stop of masked units", manager, 1, STOP, 0, 0b110, 0, 0b110);
        CHECK.due("start() of their opponent", manager.start(0, false), 3);
        CHECK.due("what is active then", manager.inState(2), 0b001);
    }

    // ---- section 3: a unit with two jobs

    /** Section 3: "if both are essential, the transaction fails (CONFLICT)". */
    private static void bothEssential() {
        fails("needed, and an opponent", targets(2, ";a requires b;a conflicts b"), 0, START, CONFLICT);
        fails("told by the other one", targets(2, ";a binds b;b conflicts a"), 0, START, CONFLICT);
        fails("to restart", targets(2, ";a requires b;a conflicts b"), 0, RESTART, CONFLICT);
        fails("the unit of the call follows what is stopped", targets(3, ";a requires b;b conflicts c;a partof c"), 0, START, CONFLICT);
    }

    /** Section 3: "one of both that is not essential is banned: the job to start or restart, if it is not essential". */
    private static void startIsNotEssential() {
        ServiceManager manager = targets(2, ";a wants b;a conflicts b");
        planned("its stop is needless", manager, 0, START, 0b01, 0, 0, 0b01);
        manager.start(1, false);
        planned("its stop is essential", manager, 0, START, 0b01, 0b10, 0, 0b11);
        manager = targets(3, ";a wants b;a wants c;b conflicts c");
        manager.start(1, false);
        manager.setMasked(2, true);
        planned("no stop at all", manager, 0, START, 0b001, 0, 0, 0b001);
    }

    /** Section 3: the start "if it is not essential, and otherwise the job to stop". */
    private static void stopIsNotEssential() {
        // b would be stopped with c, of which it is part
        ServiceManager manager = targets(4, ";a requires b;b partof c;a wants d;d conflicts c");
        manager.start(2, false);
        planned("an essential start", manager, 0, START, 0b1011, 0b0100, 0, 0b0011);
        CHECK.due("start()", manager.start(0, false), 4);
        CHECK.due("what is active then", manager.inState(2), 0b1011);
        manager = targets(4, ";a requires b;a partof c;b partof c;a wants d;d conflicts c");
        manager.start(2, false);
        planned("two stops are banned", manager, 0, START, 0b1011, 0b0100, 0, 0b0011);
        manager = targets(4, ";b partof a;b partof c;a wants d;d conflicts c");
        for (int unit = 0; unit < 3; unit++) {
            manager.start(unit, false);
        }
        planned("an essential restart", manager, 0, RESTART, 0b1000, 0b0100, 0b0011, 0b0011);
    }

    /** Section 3: "Of several such units the one with the smallest number is treated first". */
    private static void smallestUnitFirst() {
        ServiceManager manager = targets(3, ";a wants b;a wants c;b conflicts c");
        planned("b is banned, and then c has one job", manager, 0, START, 0b101, 0, 0, 0b001);
        manager = targets(3, ";c wants a;c wants b;a conflicts b");
        planned("a is banned, and then b has one job", manager, 2, START, 0b110, 0, 0, 0b100);
        manager = targets(5, ";a wants b;a wants c;b conflicts c;a wants d;a wants e;d conflicts e");
        planned("b is banned, and then d", manager, 0, START, 0b10101, 0, 0, 0b00001);
        manager = targets(16, ";a wants o;a wants p;o conflicts p");
        planned("the last unit but one is banned", manager, 0, START, 0x8001, 0, 0, 0x0001);
    }

    /** Section 3: "built anew without this job (and without what it alone would pull in), and checked again". */
    private static void builtAnew() {
        ServiceManager manager = targets(6, ";a wants b;b conflicts c;a wants c;b requires d;b requires e;a wants e;d conflicts f;a wants f");
        planned("d goes with b, and so f may stay", manager, 0, START, 0b110101, 0, 0, 0b000001);
    }

    // ---- section 3: which job precedes which

    /** Section 3: "if both are to start or restart, the job of v precedes that of u if u is ordered after v". */
    private static void bothToStart() {
        String text = "service u;service v startup 9 stopping 9;u requires v";
        ServiceManager manager = Check.made(text + ";u after v");
        manager.start(0, false);
        CHECK.due("u is ordered after v", manager.precedingJobs(0), 0b10);
        CHECK.due("v is not ordered after u", manager.precedingJobs(1), 0);
        manager.advance(9);
        manager.restart(1, false);
        CHECK.due("both are to restart: u is after v", Check.jobs(manager), "3/0 3*/0");
        CHECK.due("the restart of v precedes that of u", manager.precedingJobs(0), 0b10);
        manager = Check.made(text);
        CHECK.due("no order", manager.planDepth(0, START), 1);
        manager.start(0, false);
        CHECK.due("no order: nothing precedes", manager.precedingJobs(0) | manager.precedingJobs(1), 0);
    }

    /** Section 3: "if both are to stop, the job of v precedes that of u if v is ordered after u". */
    private static void bothToStop() {
        String text = "service u stopping 9;service v stopping 9;v requires u";
        ServiceManager manager = Check.made(text + ";v after u");
        manager.start(1, false);
        manager.stop(0, false);
        CHECK.due("v stops before u", Check.jobs(manager), "2/0 2*/0");
        CHECK.due("v is ordered after u", manager.precedingJobs(0), 0b10);
        CHECK.due("u is not ordered after v", manager.precedingJobs(1), 0);
        manager = Check.made(text);
        manager.start(1, false);
        CHECK.due("no order", manager.planDepth(0, STOP), 1);
        manager = Check.made(text + ";v after u;service w stopping 9;w partof u;w after u");
        manager.start(1, false);
        manager.start(2, false);
        manager.stop(0, false);
        CHECK.due("v and w are ordered after u", manager.precedingJobs(0), 0b110);
    }

    /** Section 3: "if one is to stop and the other one is not, and one of the units is ordered after the other one". */
    private static void oneToStop() {
        for (String order : new String[] {";u after v", ";v after u", ""}) {
            for (int type : new int[] {START, RESTART}) {
                ServiceManager manager = Check.made("service u;service v stopping 9;u conflicts v" + order);
                manager.start(1, false);
                int depth = order.isEmpty() ? 1 : 2;
                CHECK.due("planDepth of the type " + type + order, manager.planDepth(0, type), depth);
                called(manager, 0, type, false);
                CHECK.due("precedingJobs(u) of the type " + type + order, manager.precedingJobs(0), order.isEmpty() ? 0 : 0b10);
                CHECK.due("precedingJobs(v)" + order, manager.precedingJobs(1), 0);
                CHECK.due("states" + order, Check.states(manager), order.isEmpty() ? "23" : "03");
            }
        }
    }

    // ---- section 3: needless jobs

    /** Section 3: needless are "jobs to start units in the state 2, and jobs to stop units in the states 0 and 4". */
    private static void needless() {
        ServiceManager manager = Check.made("service a;service b stopping 5;target c;service d run 1 exit 1;service e run 1 restart always delay 9");
        for (int unit = 1; unit < 5; unit++) {
            manager.start(unit, false);
        }
        manager.advance(1);
        manager.stop(1, false);
        manager.start(1, true);
        manager.cancel(1);
        CHECK.due("none of these has a job", Check.states(manager) + " " + manager.queueLength(), "03245 0");
        sizes("in the state 0", manager, 0, 1, 0, 1);
        sizes("in the state 3", manager, 1, 1, 1, 1);
        sizes("in the state 2", manager, 2, 0, 1, 1);
        sizes("in the state 4", manager, 3, 1, 0, 1);
        sizes("in the state 5", manager, 4, 1, 1, 1);
    }

    /** An activating unit without a job, the first one: its start was replaced by a stop, which was cancelled. */
    private static ServiceManager activatingWithoutJob() {
        ServiceManager manager = Check.made("service a startup 9;service b stopping 5;b after a");
        manager.start(1, false);
        manager.start(0, false);
        manager.stop(1, false);
        manager.stop(0, true);
        manager.cancel(0);
        return manager;
    }

    /** Section 3: in the state 1 no job is needless. */
    private static void neverNeedless() {
        ServiceManager manager = activatingWithoutJob();
        CHECK.due("a has no job", Check.jobs(manager), "0/4 2*/0");
        sizes("in the state 1", manager, 0, 1, 1, 1);
    }

    /** Section 3: "(in both cases only if the unit has no job in the queue)". */
    private static void notNeedlessWithJob() {
        ServiceManager manager = Check.made("service x startup 9 stopping 9;service a;service b run 2 exit 1;service c;service d;"
            + "x after a;x after b;x after c;x after d");
        manager.start(0, false);
        manager.advance(9);
        manager.start(2, false);
        manager.start(3, false);
        manager.start(4, false);
        manager.advance(2);
        manager.stop(0, false);
        manager.start(1, false);
        manager.start(2, false);
        manager.stop(3, false);
        manager.restart(4, false);
        CHECK.due("all wait for x", Check.jobs(manager), "2*/0 1/-1 1/0 2/0 3/0");
        CHECK.due("in these states", Check.states(manager), "30422");
        sizes("in the state 0 with a start", manager, 1, 1, 1, 1);
        sizes("in the state 4 with a start", manager, 2, 1, 1, 1);
        sizes("in the state 2 with a stop", manager, 3, 1, 1, 1);
        sizes("in the state 2 with a restart", manager, 4, 1, 1, 1);
    }

    // ---- section 3: cycles

    /** Section 3: jobs in a cycle: "otherwise the transaction fails (CYCLE)". */
    private static void allEssential() {
        fails("two", targets(2, ";a requires b;a after b;b after a"), 0, START, CYCLE);
        fails("two to restart", targets(2, ";a requires b;a after b;b after a"), 0, RESTART, CYCLE);
        fails("what is wanted is in no cycle", targets(3, ";a requires b;a after b;b after a;a wants c;c after a"), 0, START, CYCLE);
        StringBuilder relations = new StringBuilder();
        for (int unit = 0; unit < 16; unit++) {
            char next = (char) ('a' + (unit + 1) % 16);
            relations.append(';').append((char) ('a' + unit)).append(" requires ").append(next);
            relations.append(';').append((char) ('a' + unit)).append(" after ").append(next);
        }
        fails("sixteen", targets(16, relations.toString()), 9, START, CYCLE);
    }

    /** Section 3: a cycle of jobs to stop fails, too. */
    private static void stopsInCycle() {
        ServiceManager manager = targets(2, ";b requires a;a after b;b after a");
        manager.start(0, false);
        manager.start(1, false);
        CHECK.due("both are active", manager.inState(2), 0b11);
        fails("two to stop", manager, 0, STOP, CYCLE);
        CHECK.due("one alone is in no cycle", manager.stop(1, false), 1);
    }

    /** Section 3: "if at least one of them is not essential, the one of these with the greatest unit is banned". */
    private static void greatestIsBanned() {
        ServiceManager manager = targets(4, ";a wants b;a wants c;a wants d;b after c;c after d;d after b");
        planned("three that are wanted", manager, 0, START, 0b0111, 0, 0, 0b0001);
        manager = targets(3, ";a requires c;a wants b;b after c;c after b");
        planned("the greatest one is essential", manager, 0, START, 0b101, 0, 0, 0b101);
        manager = targets(4, ";a wants b;a wants d;b after a;a after b;d after b");
        planned("the greatest one is in no cycle", manager, 0, START, 0b1001, 0, 0, 0b0001);
        manager = targets(16, ";a wants o;a wants p;o after p;p after o");
        planned("the last unit", manager, 0, START, 0x4001, 0, 0, 0x0001);
        manager = targets(16, ";a wants n;a wants o;n after o;o after n");
        planned("the last unit but one", manager, 0, START, 0x2001, 0, 0, 0x0001);
        manager = targets(3, ";c wants a;c after a;a after c");
        planned("the first unit", manager, 2, START, 0b100, 0, 0, 0b100);
    }

    /** Section 3: the banned job of a cycle may be one to stop, and of several cycles each has its own. */
    private static void stopsAreBanned() {
        ServiceManager manager = targets(7, ";a wants b;b conflicts c;d requires c;e requires c;d after e;e after d;"
            + "f requires c;g requires c;f after g;g after f");
        for (int unit = 3; unit < 7; unit++) {
            manager.start(unit, false);
        }
        CHECK.due("all are active", manager.inState(2), 0b1111100);
        planned("g is banned, and then e", manager, 0, START, 0b0000011, 0b0101100, 0, 0b0000001);
        CHECK.due("start()", manager.start(0, false), 5);
        CHECK.due("what is active then", manager.inState(2), 0b1010011);
    }

    /** Section 3: "and the transaction is built anew": without what the banned job alone would pull in, cycle by cycle. */
    private static void cyclesOneByOne() {
        ServiceManager manager = targets(8, ";a wants b;a wants c;b after c;c after b;c requires d;a wants e;a wants f;e after f;f after e;"
            + "f wants g;a wants h;h after g");
        planned("f is banned, and then c", manager, 0, START, 0b10010011, 0, 0, 0b00000001);
        manager = targets(4, ";a wants b;a wants c;a wants d;b after c;c after b;c after d;d after c;d after b;b after d");
        planned("all three in one: d, and then c", manager, 0, START, 0b0011, 0, 0, 0b0001);
    }

    /** Section 3: the needless jobs are removed first: they are in no cycle. */
    private static void needlessIsInNoCycle() {
        ServiceManager manager = targets(2, ";a requires b;a after b;b after a");
        manager.start(1, false);
        planned("an active unit", manager, 0, START, 0b01, 0, 0, 0b01);
        CHECK.due("start()", manager.start(0, false), 1);
        fails("a restart is not needless", manager, 1, RESTART, CYCLE);
    }

    /** Section 3: "Bans hold until the end of this call". */
    private static void bansEnd() {
        ServiceManager manager = targets(3, ";a wants b;a wants c;b after c;c after b");
        CHECK.due("start() without c", manager.start(0, false), 2);
        CHECK.due("start() of c", manager.start(2, false), 1);
        CHECK.due("all are active", manager.inState(2), 0b111);
        manager = targets(6, ";a requires b;b partof c;a wants d;d conflicts c;e wants f;f conflicts b");
        manager.start(2, false);
        CHECK.due("start() of a without a stop of b", manager.start(0, false), 4);
        planned("start() of e with one", manager, 4, START, 0b110000, 0b000011, 0, 0b010000);
    }

    /** Section 3: "MASKED is looked for first, then CONFLICT, then CYCLE"; BUSY is found when it is merged. */
    private static void orderOfFailures() {
        ServiceManager manager = Check.made("service a;service b stopping 9;a requires b;a conflicts b;a after b;b after a;"
            + "service c;c requires b;c after b;b after c;service d;d requires b");
        manager.start(1, false);
        manager.stop(1, false);
        manager.setMasked(1, true);
        fails("MASKED, CONFLICT, CYCLE and BUSY", manager, 0, START, MASKED);
        fails("MASKED, CYCLE and BUSY", manager, 2, START, MASKED);
        fails("MASKED and BUSY", manager, 3, START, MASKED);
        manager.setMasked(1, false);
        fails("CONFLICT, CYCLE and BUSY", manager, 0, START, CONFLICT);
        fails("CYCLE and BUSY", manager, 2, START, CYCLE);
        CHECK.refused("BUSY alone", manager, () -> manager.start(3, false), BUSY);
        CHECK.due("BUSY, replaced", manager.start(3, true), 2);
    }

    // ---- section 3: the merge

    /** The unit a with this job, which waits for the stop of x. */
    private static ServiceManager withJob(int type) {
        ServiceManager manager = Check.made("service x startup 9 stopping 90;service a;x after a");
        manager.start(0, false);
        manager.advance(9);
        if (type == STOP) {
            manager.start(1, false);
        }
        manager.stop(0, false);
        called(manager, 1, type, false);
        CHECK.due("the job of a", manager.jobOf(1), type);
        CHECK.due("it waits", manager.isRunning(1), false);
        return manager;
    }

    /** Section 3: a job "clashes ... if exactly one of both is to stop"; "If a job clashes and the call does not replace ... (BUSY)". */
    private static void clashes() {
        for (int old = START; old <= RESTART; old++) {
            for (int type = START; type <= RESTART; type++) {
                String what = "a job " + type + " where one is " + old;
                int one = type;
                ServiceManager manager = withJob(old);
                int outcome = manager.outcomeOf(1);
                if ((old == STOP) != (type == STOP)) {
                    CHECK.refused(what, manager, () -> called(manager, 1, one, false), BUSY);
                    CHECK.due(what + ", replacing", called(manager, 1, type, true), 1);
                    CHECK.due(what + ": the new job", manager.jobOf(1), type);
                    CHECK.due(what + ": the old one is cancelled", manager.outcomeOf(1), 4);
                } else {
                    CHECK.due(what, called(manager, 1, type, false), 1);
                    CHECK.due(what + ": the job then", manager.jobOf(1), Math.max(old, type));
                    CHECK.due(what + ": no job has ended", manager.outcomeOf(1), outcome);
                }
                CHECK.due(what + ": it waits", manager.isRunning(1), false);
            }
        }
    }

    /** Section 3: BUSY, if one job of several clashes: then none of them is added. */
    private static void oneOfSeveralClashes() {
        ServiceManager manager = Check.made("service a;service b;service c stopping 5;a requires b;b requires c");
        manager.start(2, false);
        manager.stop(2, false);
        CHECK.refused("start()", manager, () -> manager.start(0, false), BUSY);
        CHECK.due("queueLength()", manager.queueLength(), 1);
        CHECK.due("start() that replaces", manager.start(0, true), 3);
        CHECK.due("outcomeOf(c)", manager.outcomeOf(2), 4);
    }

    /** Section 3: "a job in the queue of the same type, or one to restart where the new one is to start, stays", running or not. */
    private static void jobStays() {
        ServiceManager manager = Check.made("service a startup 5 stopping 5");
        manager.start(0, false);
        manager.advance(2);
        manager.start(0, true);
        CHECK.due("a running start", manager.isRunning(0), true);
        CHECK.due("since()", manager.since(0), 0);
        manager.advance(3);
        manager.restart(0, false);
        manager.advance(2);
        manager.restart(0, true);
        CHECK.due("a running restart", manager.isRunning(0), true);
        manager.start(0, true);
        CHECK.due("a running restart where a start is asked for", manager.jobOf(0), RESTART);
        CHECK.due("it is running", manager.isRunning(0), true);
        manager.stop(0, true);
        manager.stop(0, true);
        CHECK.due("a running stop", manager.isRunning(0), true);
        CHECK.due("the outcome of the restart", manager.outcomeOf(0), 4);
        manager = Check.made("service a startup 90;service x stopping 50;x after a");
        manager.start(1, false);
        manager.start(0, false);
        manager.stop(1, false);
        CHECK.due("start() when a job precedes it by now", manager.start(0, false), 1);
        CHECK.due("it is running still", manager.isRunning(0), true);
    }

    /** Section 3: "a job to start is replaced by one to restart, which is waiting (and is not cancelled)". */
    private static void startBecomesRestart() {
        ServiceManager manager = Check.made("service x startup 50;service a startup 9;service b;b requires a;b after a;a after x");
        manager.start(1, false);
        manager.start(2, false);
        manager.start(0, false);
        CHECK.due("a is starting, b waits", Check.jobs(manager), "1*/-1 1*/-1 1/-1");
        CHECK.due("restart() of a", manager.restart(1, false), 1);
        CHECK.due("it waits for x, and no job has ended", Check.jobs(manager), "1*/-1 3/-1 1/-1");
    }

    /** Section 3: a clashing job "is cancelled (what follows from this by section 4 happens at once)". */
    private static void cancelledAtOnce() {
        ServiceManager manager = Check.made("service x startup 50;service a;service b;b requires a;b after a;a after x;service c;c wants a;c after a");
        manager.start(0, false);
        manager.start(2, false);
        manager.start(3, false);
        CHECK.due("all wait for x", Check.jobs(manager), "1*/-1 1/-1 1/-1 1/-1");
        CHECK.due("stop() of a: b follows it", manager.stop(1, true), 2);
        CHECK.due("b failed before its stop, c wants it alone", Check.jobs(manager), "1*/-1 0/0 0/0 0/0");
    }

    /** Section 3 and 6: "A transaction that fails changes nothing": whichever call, and however it fails. */
    private static void failsAndChangesNothing() {
        ServiceManager manager = Check.made("service a startup 5 stopping 5;service b restart always run 3;socket s a 5;target t;t requires b;"
            + "t conflicts b;target u;target v;u requires v;u after v;v after u;target w;w requires a;w conflicts s");
        manager.start(1, false);
        manager.start(2, false);
        manager.connect(2, 4);
        manager.advance(4);
        manager.setMasked(4, true);
        for (int type : new int[] {START, RESTART}) {
            fails("CONFLICT of the type " + type, manager, 3, type, CONFLICT);
            fails("MASKED of the type " + type, manager, 4, type, MASKED);
        }
        manager.setMasked(4, false);
        fails("CYCLE to start", manager, 4, START, CYCLE);
        fails("CYCLE to restart", manager, 4, RESTART, CYCLE);
        CHECK.refused("BUSY to stop", manager, () -> manager.stop(0, false), BUSY);
        manager.stop(0, true);
        CHECK.refused("BUSY to start", manager, () -> manager.start(6, false), BUSY);
        CHECK.refused("BUSY to restart", manager, () -> manager.restart(0, false), BUSY);
    }

    // ---- promises 12 to 16

    /** Promises 12 and 13: "(0 if nothing was to be done)"; promise 14: a restart is always something. */
    private static void nothingToDo() {
        ServiceManager manager = targets(3, ";b requires a;c conflicts a");
        CHECK.refused("stop() of what is inactive", manager, () -> manager.stop(0, false), 0);
        CHECK.due("restart() of what is inactive", manager.restart(1, false), 2);
        CHECK.due("what is active then", manager.inState(2), 0b011);
        CHECK.refused("start() of what is active", manager, () -> manager.start(1, false), 0);
        CHECK.refused("start() of what is active, replacing", manager, () -> manager.start(1, true), 0);
        CHECK.due("restart() of what is active", manager.restart(1, false), 1);
    }

    /** Promises 12 to 14: "Returns the number of jobs that were in the transaction when it was merged": 16 at most. */
    private static void numberOfJobs() {
        ServiceManager manager = chain();
        CHECK.due("start() of sixteen", manager.start(15, false), 16);
        manager.advance(9);
        CHECK.due("restart() of sixteen", manager.restart(0, false), 16);
        CHECK.due("start() of those that restart: what stays is counted", manager.start(15, false), 16);
        CHECK.due("stop() of sixteen", manager.stop(0, true), 16);
        CHECK.due("start() of one", manager.start(0, true), 1);
    }

    /** Promises 12 to 14: "if there is no such unit". */
    private static void noSuchUnit() {
        ServiceManager manager = targets(2, "");
        for (int unit : new int[] {-1, 2, Integer.MIN_VALUE, Integer.MAX_VALUE}) {
            for (boolean replace : new boolean[] {false, true}) {
                CHECK.noSuchUnit("start(" + unit + ")", manager, () -> manager.start(unit, replace));
                CHECK.noSuchUnit("stop(" + unit + ")", manager, () -> manager.stop(unit, replace));
                CHECK.noSuchUnit("restart(" + unit + ")", manager, () -> manager.restart(unit, replace));
            }
        }
        CHECK.due("start() of the last unit", manager.start(1, false), 1);
    }

    /** Promise 15: "which: 0: all jobs of the transaction; 1 to 3: those of that type; 4: the essential ones". */
    private static void planOfEachKind() {
        ServiceManager manager = targets(5, ";a requires b;a wants c;a conflicts d;e requires a");
        manager.start(3, false);
        planned("a start", manager, 0, START, 0b00111, 0b01000, 0, 0b01011);
        manager.start(4, false);
        planned("a restart", manager, 0, RESTART, 0, 0, 0b10001, 0b10001);
        planned("a stop", manager, 0, STOP, 0, 0b10001, 0, 0b10001);
        planned("nothing", manager, 0, START, 0, 0, 0, 0);
    }

    /** Promise 15: "without merging it"; it never answers BUSY. */
    private static void planMergesNothing() {
        for (int old = START; old <= RESTART; old++) {
            ServiceManager manager = withJob(old);
            for (int type = START; type <= RESTART; type++) {
                int one = type;
                CHECK.refused("plan() of a job " + type + " where one is " + old, manager, () -> manager.plan(1, one, 0), 0b10);
                CHECK.refused("planDepth() of a job " + type + " where one is " + old, manager, () -> manager.planDepth(1, one), 1);
            }
        }
    }

    /** Promise 15: "type: 1 to start, 2 to stop, 3 to restart"; "Throws IllegalArgumentException if type or which is out of range". */
    private static void planRanges() {
        ServiceManager manager = targets(2, "");
        manager.setMasked(0, true);
        for (int wrong : new int[] {0, 4, -1, Integer.MIN_VALUE, Integer.MAX_VALUE}) {
            CHECK.outOfRange("plan() of the type " + wrong, manager, () -> manager.plan(0, wrong, 0));
            CHECK.outOfRange("planDepth() of the type " + wrong, manager, () -> manager.planDepth(0, wrong));
            CHECK.noSuchUnit("plan() of no unit and no type", manager, () -> manager.plan(2, wrong, 0));
            CHECK.noSuchUnit("planDepth() of no unit and no type", manager, () -> manager.planDepth(-1, wrong));
        }
        for (int wrong : new int[] {5, -1, Integer.MIN_VALUE, Integer.MAX_VALUE}) {
            CHECK.outOfRange("plan() of the set " + wrong, manager, () -> manager.plan(0, 1, wrong));
            CHECK.outOfRange("plan() of no type and no set", manager, () -> manager.plan(0, 0, wrong));
            CHECK.noSuchUnit("plan() of no unit and no set", manager, () -> manager.plan(2, 1, wrong));
        }
        CHECK.due("MASKED comes after them", manager.plan(0, 1, 4), MASKED);
    }

    /** Promise 16: "the number of jobs in the longest chain"; "0 without jobs". */
    private static void depths() {
        ServiceManager manager = chain();
        CHECK.due("planDepth() without jobs", manager.planDepth(0, STOP), 0);
        CHECK.due("planDepth() of one job", manager.planDepth(0, START), 1);
        CHECK.due("planDepth() of two jobs", manager.planDepth(1, START), 2);
        CHECK.due("planDepth() of sixteen jobs", manager.planDepth(15, START), 16);
        CHECK.due("planDepth() of three jobs without an order", targets(3, ";a requires b;a requires c").planDepth(0, START), 1);
        manager.start(15, false);
        manager.advance(9);
        CHECK.due("planDepth() of sixteen stops", manager.planDepth(0, STOP), 16);
        CHECK.due("planDepth() of sixteen restarts", manager.planDepth(0, RESTART), 16);
        CHECK.due("planDepth() of nothing to do", manager.planDepth(15, START), 0);
        CHECK.due("the outcome of no job", Check.made("target a").outcomeOf(0), NONE);
    }

    private static void jobsOfTransactions() {
        atMostOneJobForEachUnit();
        firstJobIsEssential();
        startPullsNeeds();
        startPullsWants();
        startPullsStops();
        stopPullsFollowers();
        restartPullsFollowers();
        pulledInSeveralTimes();
        startAndRestart();
        maskedAndEssential();
        maskedAndNotEssential();
        maskedAndStopped();
        bothEssential();
        startIsNotEssential();
        stopIsNotEssential();
        smallestUnitFirst();
        builtAnew();
        bothToStart();
        bothToStop();
        oneToStop();
    }

    private static void checksAndMerges() {
        needless();
        neverNeedless();
        notNeedlessWithJob();
        allEssential();
        stopsInCycle();
        greatestIsBanned();
        stopsAreBanned();
        cyclesOneByOne();
        needlessIsInNoCycle();
        bansEnd();
        orderOfFailures();
        clashes();
        oneOfSeveralClashes();
        jobStays();
        startBecomesRestart();
        cancelledAtOnce();
        failsAndChangesNothing();
    }

    public static void main(String[] args) {
        jobsOfTransactions();
        checksAndMerges();
        nothingToDo();
        numberOfJobs();
        noSuchUnit();
        planOfEachKind();
        planMergesNothing();
        planRanges();
        depths();
        CHECK.finish();
    }
}
