/** Promises 53 and 54, and section 6: a test for each sentence that names a boundary case. */
public final class EdgesOfSnapshotsTest {

    private static final int NONE = ServiceManager.NONE;
    private static final int FULL = ServiceManager.FULL;
    private static final int WRONG_STATE = ServiceManager.WRONG_STATE;
    private static final Check CHECK = new Check();

    /** Sixteen units, jobs of each type, a full log, connections of each kind, a masked unit. */
    private static ServiceManager full() {
        StringBuilder text = new StringBuilder("service a startup 9;service b stopping 50;service c;service d;service e restart always delay 30;"
            + "service f startup 30;socket s f 3;service g run 5 exit 9;socket r c 3;b after c;b after d");
        for (char name = 'h'; name < 'h' + 7; name++) {
            text.append(";target ").append(name);
        }
        ServiceManager manager = Check.made(text.toString());
        for (int unit = 1; unit < 16; unit++) {
            if (unit != 5) {
                manager.start(unit, false);
            }
        }
        for (int change = 0; change < 15; change++) {
            manager.restart(15, false);
        }
        manager.connect(6, 5);
        manager.connect(8, 7);
        manager.stop(1, false);
        manager.stop(2, false);
        manager.restart(3, false);
        manager.kill(4, 0);
        manager.advance(5);
        manager.start(0, false);
        manager.setMasked(15, true);
        CHECK.due("the log is full", manager.logSize(), 60);
        CHECK.due("states", Check.states(manager), "1322512422222222");
        return manager;
    }

    /** Whatever can be changed is changed. */
    private static void change(ServiceManager manager) {
        manager.setMasked(15, false);
        manager.setMasked(0, true);
        manager.cancel(2);
        manager.stop(0, true);
        manager.reset(7);
        manager.connect(6, 1);
        manager.stop(6, true);
        manager.kill(5, 77);
        manager.advance(100);
        manager.connect(8, 100);
        manager.restart(9, true);
        manager.stop(10, true);
    }

    // ---- promises 53 and 54

    /** Promises 53 and 54: "slot: 0 or 1"; "Throws IllegalArgumentException if slot is out of range". */
    private static void slots() {
        ServiceManager manager = full();
        for (int slot : new int[] {-1, 2, Integer.MIN_VALUE, Integer.MAX_VALUE}) {
            CHECK.outOfRange("saveSnapshot(" + slot + ")", manager, () -> manager.saveSnapshot(slot));
            CHECK.outOfRange("restoreSnapshot(" + slot + ")", manager, () -> manager.restoreSnapshot(slot));
        }
        for (int slot = 0; slot <= 1; slot++) {
            int one = slot;
            CHECK.refused("restoreSnapshot(" + slot + ") before it is saved", manager, () -> manager.restoreSnapshot(one), NONE);
            CHECK.refused("saveSnapshot(" + slot + ")", manager, () -> manager.saveSnapshot(one), 5);
            CHECK.refused("restoreSnapshot(" + slot + ")", manager, () -> manager.restoreSnapshot(one), 5);
        }
    }

    /** Promise 54: "NONE if nothing was saved there": a snapshot in the other slot is none in this one. */
    private static void nothingSaved() {
        for (int slot = 0; slot <= 1; slot++) {
            ServiceManager manager = full();
            int other = 1 - slot;
            manager.saveSnapshot(slot);
            CHECK.refused("restoreSnapshot(" + other + ")", manager, () -> manager.restoreSnapshot(other), NONE);
            change(manager);
            CHECK.refused("restoreSnapshot(" + other + ") later", manager, () -> manager.restoreSnapshot(other), NONE);
            CHECK.due("restoreSnapshot(" + slot + ")", manager.restoreSnapshot(slot), 5);
        }
    }

    /** Promise 53: "Copies everything to a snapshot"; promise 54: "Replaces everything by a copy of a snapshot, which stays". */
    private static void everything() {
        ServiceManager manager = full();
        String before = Check.everything(manager);
        CHECK.due("saveSnapshot(1)", manager.saveSnapshot(1), 5);
        for (int time = 0; time < 3; time++) {
            change(manager);
            CHECK.due("all has changed", Check.everything(manager).equals(before), false);
            CHECK.due("restoreSnapshot(1)", manager.restoreSnapshot(1), 5);
            CHECK.due("everything after it", Check.everything(manager), before);
        }
        ServiceManager same = full();
        change(manager);
        change(same);
        CHECK.due("what comes of it", Check.everything(manager), Check.everything(same));
    }

    /** Promise 53: "everything": also when a service was used, which activations have failed, and when it began. */
    private static void whatIsNotSeen() {
        ServiceManager manager = Check.made("service a idle 9;socket s a 1;service b fails 2 limit 4 9");
        for (int unit = 0; unit < 3; unit++) {
            manager.start(unit, false);
        }
        manager.advance(2);
        manager.connect(1, 1);
        manager.saveSnapshot(0);
        manager.advance(3);
        manager.connect(1, 1);
        manager.start(2, false);
        manager.start(2, false);
        manager.restoreSnapshot(0);
        CHECK.due("the latest connection", manager.dueAt(0), 11);
        manager.start(2, false);
        CHECK.due("the second activation", manager.stateOf(2), 4);
        manager.start(2, false);
        CHECK.due("the third one", manager.stateOf(2), 2);
        manager.advance(7);
        CHECK.due("the begins of the last 9 ticks", manager.recentBegins(2), 2);
        manager.advance(2);
        CHECK.due("the begins of the last 9 ticks then", manager.recentBegins(2), 0);
    }

    /** Promise 53: "everything": the times of nine begins, of the first unit and of the last one. */
    private static void timesOfBegins() {
        timesOfBegins(Check.made("service a limit 9 1000"), 0);
        timesOfBegins(Check.made(Check.targets(15, ";service p limit 9 1000")), 15);
    }

    private static void timesOfBegins(ServiceManager manager, int unit) {
        manager.saveSnapshot(0);
        for (int begin = 0; begin < 9; begin++) {
            manager.advance(100);
            manager.restart(unit, false);
        }
        manager.saveSnapshot(1);
        manager.restoreSnapshot(0);
        manager.advance(50);
        for (int begin = 0; begin < 9; begin++) {
            manager.restart(unit, false);
        }
        manager.restoreSnapshot(1);
        manager.advance(199);
        CHECK.due("all nine", manager.recentBegins(unit), 9);
        for (int gone = 1; gone <= 9; gone++) {
            manager.advance(1);
            CHECK.due("after " + gone, manager.recentBegins(unit), 9 - gone);
            manager.advance(99);
        }
    }

    /** Promises 53 and 54: "Returns the time": the time goes back to that of the snapshot, and forward. */
    private static void answersTheTime() {
        ServiceManager manager = Check.made("target a");
        CHECK.due("saveSnapshot() at 0", manager.saveSnapshot(0), 0);
        Check.letPass(manager, 1000000);
        CHECK.due("saveSnapshot() at the end of time", manager.saveSnapshot(1), 1000000);
        CHECK.due("restoreSnapshot() of 0", manager.restoreSnapshot(0), 0);
        CHECK.due("time() then", manager.time(), 0);
        CHECK.due("advance() then", manager.advance(1), 1);
        CHECK.due("restoreSnapshot() of the end of time", manager.restoreSnapshot(1), 1000000);
        CHECK.due("advance() at the end of time", manager.advance(1), FULL);
    }

    /** Promise 53: a second snapshot takes the place of the first one in its slot, and leaves the other slot. */
    private static void savedAgain() {
        ServiceManager manager = Check.made("target a");
        manager.saveSnapshot(0);
        manager.saveSnapshot(1);
        manager.advance(1);
        manager.start(0, false);
        manager.saveSnapshot(0);
        manager.advance(1);
        CHECK.due("the slot 0", manager.restoreSnapshot(0), 1);
        CHECK.due("stateOf() in the slot 0", manager.stateOf(0), 2);
        CHECK.due("the slot 1", manager.restoreSnapshot(1), 0);
        CHECK.due("stateOf() in the slot 1", manager.stateOf(0), 0);
        CHECK.due("the slot 0 again", manager.restoreSnapshot(0), 1);
    }

    /** Promises 53 and 54: of an object without units, and of one with sixteen. */
    private static void numbersOfUnits() {
        ServiceManager manager = new ServiceManager();
        CHECK.due("saveSnapshot() without units", manager.saveSnapshot(0), 0);
        Check.reload(manager, Check.targets(16, ""));
        manager.start(15, false);
        manager.saveSnapshot(1);
        CHECK.due("restoreSnapshot() without units", manager.restoreSnapshot(0), 0);
        CHECK.due("unitCount() then", manager.unitCount(), 0);
        CHECK.due("find() then", Check.find(manager, "a"), NONE);
        CHECK.due("logSize() then", manager.logSize(), 0);
        CHECK.noSuchUnit("stateOf(0) then", manager, () -> manager.stateOf(0));
        manager.restoreSnapshot(1);
        CHECK.due("unitCount() of sixteen", manager.unitCount(), 16);
        CHECK.due("find() of the last one", Check.find(manager, "p"), 15);
        CHECK.due("inState(2)", manager.inState(2), 32768);
    }

    // ---- section 6: what a snapshot does not contain

    /** Section 6: "everything except the input buffer": an empty one, one with bytes, a full one. */
    private static void notTheBuffer() {
        ServiceManager manager = Check.made("target a");
        manager.saveSnapshot(0);
        manager.append('a');
        manager.saveSnapshot(1);
        manager.restoreSnapshot(0);
        CHECK.due("the buffer stays", manager.append(0), 1);
        CHECK.due("find() of it", manager.find(), 0);
        manager.restoreSnapshot(1);
        CHECK.due("the buffer is empty still", manager.append(0), 0);
        for (int bytes = 0; bytes < 800; bytes += 8) {
            manager.append(-1);
        }
        manager.restoreSnapshot(0);
        CHECK.due("the buffer is full still", manager.append(1), FULL);
    }

    /** Section 6: except "the result of the latest load": loadError() stays as it is. */
    private static void notTheLoadError() {
        ServiceManager manager = Check.made("target a");
        manager.saveSnapshot(0);
        Check.write(manager, "target a;target a");
        manager.load();
        manager.saveSnapshot(1);
        manager.restoreSnapshot(0);
        CHECK.due("loadError() after restoreSnapshot(0)", manager.loadError(), 3);
        Check.reload(manager, "target b");
        manager.restoreSnapshot(1);
        CHECK.due("loadError() after restoreSnapshot(1)", manager.loadError(), 0);
    }

    /** Section 6: except "the snapshots": one that was saved later is there still after an earlier one is restored. */
    private static void notTheSnapshots() {
        ServiceManager manager = Check.made("target a");
        manager.saveSnapshot(0);
        manager.advance(5);
        manager.saveSnapshot(1);
        CHECK.due("restoreSnapshot(0)", manager.restoreSnapshot(0), 0);
        CHECK.due("restoreSnapshot(1)", manager.restoreSnapshot(1), 5);
    }

    // ---- section 6: refused calls

    /** Section 6: "exceptions come before error codes": each call that has both. */
    private static void exceptionsBeforeCodes() {
        ServiceManager manager = Check.made("service a;socket s a 5;target t;t requires a");
        Check.letPass(manager, 1000000);
        manager.setMasked(0, true);
        CHECK.outOfRange("advance(1001) before FULL", manager, () -> manager.advance(1001));
        CHECK.outOfRange("connect(1, 0) before WRONG_STATE", manager, () -> manager.connect(1, 0));
        CHECK.outOfRange("connect(1, 101) before WRONG_STATE", manager, () -> manager.connect(1, 101));
        CHECK.outOfRange("kill(0, 256) before WRONG_STATE", manager, () -> manager.kill(0, 256));
        CHECK.outOfRange("kill(2, -1) before WRONG_STATE", manager, () -> manager.kill(2, -1));
        CHECK.outOfRange("plan(2, 1, 5) before MASKED", manager, () -> manager.plan(2, 1, 5));
        CHECK.outOfRange("plan(2, 4, 0) before MASKED", manager, () -> manager.plan(2, 4, 0));
        CHECK.outOfRange("planDepth(2, 0) before MASKED", manager, () -> manager.planDepth(2, 0));
        CHECK.outOfRange("property(2, 10) before NONE", manager, () -> manager.property(2, 10));
        CHECK.outOfRange("logEntry(0, 3) before NONE", manager, () -> manager.logEntry(0, 3));
        CHECK.outOfRange("restoreSnapshot(2) before NONE", manager, () -> manager.restoreSnapshot(2));
        CHECK.outOfRange("damageOf(2, 201) before 0", manager, () -> manager.damageOf(2, 201));
        CHECK.noSuchUnit("nameLetter(3, 99) before NONE", manager, () -> manager.nameLetter(3, 99));
        CHECK.noSuchUnit("cancel(3) before WRONG_STATE", manager, () -> manager.cancel(3));
    }

    /** Section 6: "If several exceptions apply, the one that is listed first is thrown": no such unit comes first. */
    private static void firstException() {
        ServiceManager manager = Check.made("service a;socket s a 5");
        for (int unit : new int[] {-1, 2}) {
            CHECK.noSuchUnit("property(" + unit + ", 10)", manager, () -> manager.property(unit, 10));
            CHECK.noSuchUnit("related(" + unit + ", 6)", manager, () -> manager.related(unit, 6));
            CHECK.noSuchUnit("plan(" + unit + ", 0, 5)", manager, () -> manager.plan(unit, 0, 5));
            CHECK.noSuchUnit("planDepth(" + unit + ", 4)", manager, () -> manager.planDepth(unit, 4));
            CHECK.noSuchUnit("connect(" + unit + ", 101)", manager, () -> manager.connect(unit, 101));
            CHECK.noSuchUnit("kill(" + unit + ", 256)", manager, () -> manager.kill(unit, 256));
            CHECK.noSuchUnit("stateAfter(" + unit + ", 1001)", manager, () -> manager.stateAfter(unit, 1001));
            CHECK.noSuchUnit("damageOf(" + unit + ", 201)", manager, () -> manager.damageOf(unit, 201));
        }
    }

    /** Section 6: "A method that ... returns an error code changes nothing": each code, in an object where all may change. */
    private static void codesChangeNothing() {
        ServiceManager manager = full();
        manager.saveSnapshot(0);
        CHECK.refused("MASKED", manager, () -> manager.start(15, true), ServiceManager.MASKED);
        CHECK.refused("BUSY", manager, () -> manager.start(1, false), ServiceManager.BUSY);
        CHECK.refused("WRONG_STATE of cancel()", manager, () -> manager.cancel(0), WRONG_STATE);
        CHECK.refused("WRONG_STATE of connect()", manager, () -> manager.connect(0, 1), WRONG_STATE);
        CHECK.refused("WRONG_STATE of kill()", manager, () -> manager.kill(1, 1), WRONG_STATE);
        CHECK.refused("reset() that answers false", manager, () -> manager.reset(0) ? 1 : 0, 0);
        CHECK.refused("NONE of restoreSnapshot()", manager, () -> manager.restoreSnapshot(1), NONE);
        for (int bytes = 0; bytes < 800; bytes += 8) {
            manager.append(-1);
        }
        CHECK.refused("FULL of append()", manager, () -> manager.append(1), FULL);
        Check.letPass(manager, 999000);
        CHECK.refused("FULL of advance()", manager, () -> manager.advance(996), FULL);
        CHECK.due("the snapshot stays", manager.restoreSnapshot(0), 5);
    }

    /** Section 6: "except that load() and find() empty the buffer": with an error, and with NONE. */
    private static void loadAndFindEmptyTheBuffer() {
        ServiceManager manager = full();
        String before = Check.everything(manager);
        Check.write(manager, "target");
        CHECK.due("load() with an error", manager.load(), -106);
        CHECK.due("the buffer after load()", manager.append(0), 0);
        Check.write(manager, "nobody");
        CHECK.due("find() of nobody", manager.find(), NONE);
        CHECK.due("the buffer after find()", manager.append(0), 0);
        CHECK.due("everything else", Check.everything(manager), before);
    }

    public static void main(String[] args) {
        slots();
        nothingSaved();
        everything();
        whatIsNotSeen();
        timesOfBegins();
        answersTheTime();
        savedAgain();
        numbersOfUnits();
        notTheBuffer();
        notTheLoadError();
        notTheSnapshots();
        exceptionsBeforeCodes();
        firstException();
        codesChangeNothing();
        loadAndFindEmptyTheBuffer();
        CHECK.finish();
    }
}
