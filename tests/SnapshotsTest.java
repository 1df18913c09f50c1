/** Promises 53 and 54, and section 6: what a snapshot holds, and what it does not. */
public final class SnapshotsTest {

    private static final int NONE = ServiceManager.NONE;
    private static final Check CHECK = new Check();

    /** An object in which something of everything has happened. */
    private static ServiceManager lived() {
        ServiceManager manager = Check.made("service a run 3 exit 9 restart always delay 4 limit 3 50;socket s a 3;service b startup 9;"
            + "target t;t requires b;t after b;service d stopping 5;d binds a;service e fails 2");
        for (int unit : new int[] {0, 1, 3, 4, 5}) {
            manager.start(unit, false);
        }
        manager.connect(1, 2);
        manager.advance(4);
        manager.connect(1, 5);
        manager.setMasked(2, true);
        return manager;
    }

    private static void disturb(ServiceManager manager) {
        manager.advance(7);
        manager.setMasked(2, false);
        manager.setMasked(0, true);
        manager.start(5, true);
        manager.kill(0, 77);
        manager.stop(1, true);
        manager.reset(4);
        manager.restart(3, true);
        manager.advance(30);
    }

    private static void restoresEverything() {
        ServiceManager manager = lived();
        String before = Check.everything(manager);
        CHECK.due("saveSnapshot(0)", manager.saveSnapshot(0), 4);
        CHECK.due("everything after it", Check.everything(manager), before);
        disturb(manager);
        CHECK.due("what happened has an effect", Check.everything(manager).equals(before), false);
        CHECK.due("restoreSnapshot(1), never saved", manager.restoreSnapshot(1), NONE);
        CHECK.due("time() after it", manager.time(), 41);
        CHECK.due("restoreSnapshot(0)", manager.restoreSnapshot(0), 4);
        CHECK.due("everything after it", Check.everything(manager), before);
        ServiceManager same = lived();
        disturb(manager);
        disturb(same);
        CHECK.due("all goes on as it would have gone", Check.everything(manager), Check.everything(same));
        CHECK.due("the snapshot stays", manager.restoreSnapshot(0), 4);
        CHECK.due("everything once more", Check.everything(manager), before);
    }

    private static void hiddenThings() {
        // when the service was used last, and how many activations have failed, are held, too
        ServiceManager manager = Check.made("service a idle 5;socket s a 1;service b fails 2 limit 4 9");
        manager.start(0, false);
        manager.start(1, false);
        manager.start(2, false);
        manager.advance(2);
        manager.connect(1, 1);
        manager.saveSnapshot(1);
        manager.advance(2);
        manager.connect(1, 1);
        manager.start(2, false);
        manager.start(2, false);
        manager.restoreSnapshot(1);
        CHECK.due("dueAt()", manager.dueAt(0), 7);
        manager.start(2, false);
        CHECK.due("the second activation fails", manager.stateOf(2), 4);
        manager.start(2, false);
        CHECK.due("the third one does not", manager.stateOf(2), 2);
        CHECK.due("recentBegins()", manager.recentBegins(2), 3);
        manager = Check.made("service a limit 9 1000");
        manager.saveSnapshot(0);
        for (int begin = 0; begin < 9; begin++) {
            manager.advance(100);
            manager.restart(0, false);
        }
        manager.saveSnapshot(1);
        manager.restoreSnapshot(0);
        manager.start(0, false);
        manager.restoreSnapshot(1);
        manager.advance(199);
        CHECK.due("the times of the begins", manager.recentBegins(0), 9);
        manager.advance(1);
        CHECK.due("when one is too old", manager.recentBegins(0), 8);
    }

    private static void acrossTexts() {
        ServiceManager manager = lived();
        String before = Check.everything(manager);
        manager.saveSnapshot(1);
        Check.reload(manager, "target x;target y");
        CHECK.due("unitCount() of another text", manager.unitCount(), 2);
        manager.saveSnapshot(0);
        CHECK.due("the snapshots stay", manager.restoreSnapshot(1), 4);
        CHECK.due("everything across texts", Check.everything(manager), before);
        CHECK.due("find() in the text of the snapshot", Check.find(manager, "s"), 1);
        CHECK.due("find() of the other text", Check.find(manager, "x"), NONE);
        CHECK.due("the other snapshot", manager.restoreSnapshot(0), 0);
        CHECK.due("find() in it", Check.find(manager, "x"), 0);
        CHECK.due("plan() in it", manager.plan(1, 1, 0), 0b10);
        CHECK.due("saveSnapshot(1) again", manager.saveSnapshot(1), 0);
        manager.advance(5);
        CHECK.due("restoreSnapshot(1) again", manager.restoreSnapshot(1), 0);
        CHECK.due("unitCount()", manager.unitCount(), 2);
    }

    private static void whatItDoesNotHold() {
        ServiceManager manager = Check.made("target a");
        manager.append('x');
        manager.load();
        CHECK.due("loadError()", manager.loadError(), 1);
        manager.append('a');
        manager.saveSnapshot(0);
        manager.append('b');
        manager.restoreSnapshot(0);
        CHECK.due("the buffer", manager.append(0), 2);
        manager.find();
        manager.restoreSnapshot(0);
        CHECK.due("the buffer then", manager.append(0), 0);
        CHECK.due("loadError() after it", manager.loadError(), 1);
        Check.reload(manager, "target b");
        manager.restoreSnapshot(0);
        CHECK.due("loadError() of the latest load()", manager.loadError(), 0);
        manager.advance(9);
        manager.saveSnapshot(1);
        manager.restoreSnapshot(0);
        CHECK.due("the other snapshot is not held", manager.restoreSnapshot(1), 9);
    }

    private static void emptyObject() {
        ServiceManager manager = new ServiceManager();
        CHECK.due("saveSnapshot() without units", manager.saveSnapshot(0), 0);
        Check.reload(manager, "target a");
        manager.advance(3);
        CHECK.due("restoreSnapshot() of no units", manager.restoreSnapshot(0), 0);
        CHECK.due("unitCount() then", manager.unitCount(), 0);
        CHECK.noSuchUnit("stateOf(0) then", () -> manager.stateOf(0));
    }

    private static void predictionsLeaveThem() {
        ServiceManager manager = lived();
        manager.saveSnapshot(0);
        String before = Check.everything(manager);
        manager.ticksUntilActive(4);
        manager.ticksUntilQuiet();
        manager.stateAfter(0, 1000);
        manager.damageOf(0, 200);
        manager.weakest();
        manager.criticalTime(3);
        CHECK.due("everything after predictions", Check.everything(manager), before);
        manager.restoreSnapshot(0);
        CHECK.due("the snapshot after predictions", Check.everything(manager), before);
    }

    public static void main(String[] args) {
        restoresEverything();
        hiddenThings();
        acrossTexts();
        whatItDoesNotHold();
        emptyObject();
        predictionsLeaveThem();
        CHECK.finish();
    }
}
