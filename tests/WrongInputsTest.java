import java.util.function.IntBinaryOperator;
import java.util.function.IntUnaryOperator;

/** Every exception that the document names, by its promise; which comes first; and that a refused call changes nothing. */
public final class WrongInputsTest {

    private static final Check CHECK = new Check();

    private static int number(boolean answer) {
        return answer ? 1 : 0;
    }

    private static void ofUnit(String name, ServiceManager manager, IntUnaryOperator call) {
        int[] wrong = {-1, manager.unitCount(), manager.unitCount() + 1, 16, 32, Integer.MIN_VALUE, Integer.MAX_VALUE};
        for (int unit : wrong) {
            if (unit < 0 || unit >= manager.unitCount()) {
                CHECK.noSuchUnit(name + " of the unit " + unit, manager, () -> call.applyAsInt(unit));
            }
        }
    }

    /** Beside the range of its second argument; a wrong unit comes first. */
    private static void ofUnitAndRange(String name, ServiceManager manager, int least, int greatest, IntBinaryOperator call) {
        int[] wrong = {least - 1, greatest + 1, Integer.MIN_VALUE, Integer.MAX_VALUE};
        for (int number : wrong) {
            for (int unit = 0; unit < manager.unitCount(); unit++) {
                int one = unit;
                CHECK.outOfRange(name + " of " + unit + " with " + number, manager, () -> call.applyAsInt(one, number));
            }
            ofUnit(name + " with " + number, manager, unit -> call.applyAsInt(unit, number));
        }
        ofUnit(name, manager, unit -> call.applyAsInt(unit, least));
    }

    private static void ofRange(String name, ServiceManager manager, int least, int greatest, IntUnaryOperator call) {
        int[] wrong = {least - 1, greatest + 1, Integer.MIN_VALUE, Integer.MAX_VALUE};
        for (int number : wrong) {
            CHECK.outOfRange(name + " with " + number, manager, () -> call.applyAsInt(number));
        }
    }

    private static void units(ServiceManager manager) {
        ofUnit("promise 7, kindOf", manager, manager::kindOf);
        ofUnit("promise 8, nameLetter", manager, unit -> manager.nameLetter(unit, 0));
        ofUnit("promise 8, nameLetter past the name", manager, unit -> manager.nameLetter(unit, 99));
        ofUnit("promise 11, serviceOf", manager, manager::serviceOf);
        ofUnit("promise 12, start", manager, unit -> manager.start(unit, true));
        ofUnit("promise 13, stop", manager, unit -> manager.stop(unit, true));
        ofUnit("promise 14, restart", manager, unit -> manager.restart(unit, true));
        ofUnit("promise 17, cancel", manager, manager::cancel);
        ofUnit("promise 18, jobOf", manager, manager::jobOf);
        ofUnit("promise 19, isRunning", manager, unit -> number(manager.isRunning(unit)));
        ofUnit("promise 20, precedingJobs", manager, manager::precedingJobs);
        ofUnit("promise 22, outcomeOf", manager, manager::outcomeOf);
        ofUnit("promise 27, reset", manager, unit -> number(manager.reset(unit)));
        ofUnit("promise 28, setMasked", manager, unit -> number(manager.setMasked(unit, true)));
        ofUnit("promise 29, stateOf", manager, manager::stateOf);
        ofUnit("promise 31, resultOf", manager, manager::resultOf);
        ofUnit("promise 32, exitCode", manager, manager::exitCode);
        ofUnit("promise 33, since", manager, manager::since);
        ofUnit("promise 34, dueAt", manager, manager::dueAt);
        ofUnit("promise 35, restarts", manager, manager::restarts);
        ofUnit("promise 36, begins", manager, manager::begins);
        ofUnit("promise 37, recentBegins", manager, manager::recentBegins);
        ofUnit("promise 38, queued", manager, manager::queued);
        ofUnit("promise 39, accepted", manager, manager::accepted);
        ofUnit("promise 40, lost", manager, manager::lost);
        ofUnit("promise 43, allNeeded", manager, manager::allNeeded);
        ofUnit("promise 44, allStopped", manager, manager::allStopped);
        ofUnit("promise 47, ticksUntilActive", manager, manager::ticksUntilActive);
        ofUnit("promise 52, criticalTime", manager, manager::criticalTime);
    }

    private static void unitsAndRanges(ServiceManager manager) {
        ofUnitAndRange("promise 9, property", manager, 0, 9, manager::property);
        ofUnitAndRange("promise 10, related", manager, 0, 5, manager::related);
        ofUnitAndRange("promise 15, plan of the type", manager, 1, 3, (unit, type) -> manager.plan(unit, type, 0));
        ofUnitAndRange("promise 15, plan of the set", manager, 0, 4, (unit, which) -> manager.plan(unit, 1, which));
        ofUnitAndRange("promise 16, planDepth", manager, 1, 3, manager::planDepth);
        ofUnitAndRange("promise 25, connect", manager, 1, 100, manager::connect);
        ofUnitAndRange("promise 26, kill", manager, 0, 255, manager::kill);
        ofUnitAndRange("promise 49, stateAfter", manager, 0, 1000, manager::stateAfter);
        ofUnitAndRange("promise 50, damageOf", manager, 0, 200, manager::damageOf);
    }

    private static void ranges(ServiceManager manager) {
        ofRange("promise 23, advance", manager, 1, 1000, manager::advance);
        ofRange("promise 30, inState", manager, 0, 5, manager::inState);
        ofRange("promise 42, logEntry", manager, 0, 2, what -> manager.logEntry(0, what));
        ofRange("promise 42, logEntry past the log", manager, 0, 2, what -> manager.logEntry(-1, what));
        ofRange("promise 53, saveSnapshot", manager, 0, 1, manager::saveSnapshot);
        ofRange("promise 54, restoreSnapshot", manager, 0, 1, manager::restoreSnapshot);
    }

    private static void all(ServiceManager manager) {
        int bytes = manager.append('x');
        String before = Check.everything(manager);
        units(manager);
        unitsAndRanges(manager);
        ranges(manager);
        CHECK.due("everything after refused calls", Check.everything(manager), before);
        CHECK.due("the buffer after refused calls", manager.append(0), bytes);
        CHECK.due("a snapshot after refused calls", manager.restoreSnapshot(0), ServiceManager.NONE);
    }

    public static void main(String[] args) {
        all(new ServiceManager());
        ServiceManager manager = Check.made("service a startup 3; service b; socket s a 2; target t; t conflicts b; b requires a");
        all(manager);
        manager.start(2, false);
        manager.connect(2, 1);
        manager.setMasked(1, true);
        manager.setMasked(3, true);
        all(manager);
        manager.advance(7);
        all(manager);
        for (int thousand = 0; thousand < 999; thousand++) {
            manager.advance(1000);
        }
        CHECK.outOfRange("advance(0) near the end of time", () -> manager.advance(0));
        CHECK.outOfRange("advance(1001) near the end of time", () -> manager.advance(1001));
        CHECK.due("advance(1000) near the end of time", manager.advance(1000), ServiceManager.FULL);
        CHECK.finish();
    }
}
