import java.util.function.IntBinaryOperator;
import java.util.function.IntUnaryOperator;

/** Every exception that the document names, which comes first, and that a refused call changes nothing. */
public final class WrongInputsTest {

    private static final Check CHECK = new Check();

    private static int number(boolean answer) {
        return answer ? 1 : 0;
    }

    private static void ofUnit(String name, ServiceManager manager, IntUnaryOperator call) {
        int[] wrong = {-1, manager.unitCount(), manager.unitCount() + 1, 16, 32, Integer.MIN_VALUE, Integer.MAX_VALUE};
        for (int unit : wrong) {
            if (unit < 0 || unit >= manager.unitCount()) {
                CHECK.noSuchUnit(name + " of the unit " + unit, () -> call.applyAsInt(unit));
            }
        }
    }

    /** Beside the range of its second argument; a wrong unit comes first. */
    private static void ofUnitAndRange(String name, ServiceManager manager, int least, int greatest, IntBinaryOperator call) {
        int[] wrong = {least - 1, greatest + 1, Integer.MIN_VALUE, Integer.MAX_VALUE};
        for (int number : wrong) {
            for (int unit = 0; unit < manager.unitCount(); unit++) {
                int one = unit;
                CHECK.outOfRange(name + " of " + unit + " with " + number, () -> call.applyAsInt(one, number));
            }
            ofUnit(name + " with " + number, manager, unit -> call.applyAsInt(unit, number));
        }
        ofUnit(name, manager, unit -> call.applyAsInt(unit, least));
    }

    private static void ofRange(String name, int least, int greatest, IntUnaryOperator call) {
        int[] wrong = {least - 1, greatest + 1, Integer.MIN_VALUE, Integer.MAX_VALUE};
        for (int number : wrong) {
            CHECK.outOfRange(name + " with " + number, () -> call.applyAsInt(number));
        }
    }

    private static void units(ServiceManager manager) {
        ofUnit("kindOf", manager, manager::kindOf);
        ofUnit("nameLetter", manager, unit -> manager.nameLetter(unit, 0));
        ofUnit("nameLetter past the name", manager, unit -> manager.nameLetter(unit, 99));
        ofUnit("serviceOf", manager, manager::serviceOf);
        ofUnit("start", manager, unit -> manager.start(unit, true));
        ofUnit("stop", manager, unit -> manager.stop(unit, true));
        ofUnit("restart", manager, unit -> manager.restart(unit, true));
        ofUnit("cancel", manager, manager::cancel);
        ofUnit("jobOf", manager, manager::jobOf);
        ofUnit("isRunning", manager, unit -> number(manager.isRunning(unit)));
        ofUnit("precedingJobs", manager, manager::precedingJobs);
        ofUnit("outcomeOf", manager, manager::outcomeOf);
        ofUnit("reset", manager, unit -> number(manager.reset(unit)));
        ofUnit("setMasked", manager, unit -> number(manager.setMasked(unit, true)));
        ofUnit("stateOf", manager, manager::stateOf);
        ofUnit("resultOf", manager, manager::resultOf);
        ofUnit("exitCode", manager, manager::exitCode);
        ofUnit("since", manager, manager::since);
        ofUnit("dueAt", manager, manager::dueAt);
        ofUnit("restarts", manager, manager::restarts);
        ofUnit("begins", manager, manager::begins);
        ofUnit("recentBegins", manager, manager::recentBegins);
        ofUnit("queued", manager, manager::queued);
        ofUnit("accepted", manager, manager::accepted);
        ofUnit("lost", manager, manager::lost);
        ofUnit("allNeeded", manager, manager::allNeeded);
        ofUnit("allStopped", manager, manager::allStopped);
        ofUnit("ticksUntilActive", manager, manager::ticksUntilActive);
        ofUnit("criticalTime", manager, manager::criticalTime);
    }

    private static void unitsAndRanges(ServiceManager manager) {
        ofUnitAndRange("property", manager, 0, 9, manager::property);
        ofUnitAndRange("related", manager, 0, 5, manager::related);
        ofUnitAndRange("plan of the type", manager, 1, 3, (unit, type) -> manager.plan(unit, type, 0));
        ofUnitAndRange("plan of the set", manager, 0, 4, (unit, which) -> manager.plan(unit, 1, which));
        ofUnitAndRange("planDepth", manager, 1, 3, manager::planDepth);
        ofUnitAndRange("connect", manager, 1, 100, manager::connect);
        ofUnitAndRange("kill", manager, 0, 255, manager::kill);
        ofUnitAndRange("stateAfter", manager, 0, 1000, manager::stateAfter);
        ofUnitAndRange("damageOf", manager, 0, 200, manager::damageOf);
    }

    private static void ranges(ServiceManager manager) {
        ofRange("advance", 1, 1000, manager::advance);
        ofRange("inState", 0, 5, manager::inState);
        ofRange("logEntry", 0, 2, what -> manager.logEntry(0, what));
        ofRange("logEntry past the log", 0, 2, what -> manager.logEntry(-1, what));
        ofRange("saveSnapshot", 0, 1, manager::saveSnapshot);
        ofRange("restoreSnapshot", 0, 1, manager::restoreSnapshot);
    }

    private static void all(ServiceManager manager) {
        int bytes = manager.append('x');
        String before = Check.everything(manager);
        units(manager);
        unitsAndRanges(manager);
        ranges(manager);
        CHECK.due("everything after refused calls", Check.everything(manager), before);
        CHECK.due("the buffer after refused calls", manager.append(0), bytes);
        CHECK.due("a snapshot after refused calls", manager.restoreSnapshot(0), ServiceManager.NONE);
    }

    public static void main(String[] args) {
        all(new ServiceManager());
        ServiceManager manager = Check.made("service a startup 3; service b; socket s a 2; target t; t conflicts b; b requires a");
        all(manager);
        manager.start(2, false);
        manager.connect(2, 1);
        manager.setMasked(1, true);
        manager.setMasked(3, true);
        all(manager);
        manager.advance(7);
        all(manager);
        for (int thousand = 0; thousand < 999; thousand++) {
            manager.advance(1000);
        }
        CHECK.outOfRange("advance(0) near the end of time", () -> manager.advance(0));
        CHECK.outOfRange("advance(1001) near the end of time", () -> manager.advance(1001));
        CHECK.due("advance(1000) near the end of time", manager.advance(1000), ServiceManager.FULL);
        CHECK.finish();
    }
}
