import java.util.function.IntSupplier;

/** Counts the answers that are not as due, and prints each of them. */
final class Check {

    private int done;
    private int wrong;

    /** An object with this configuration, which must have no error. */
    static ServiceManager made(String text) {
        ServiceManager manager = new ServiceManager();
        reload(manager, text);
        return manager;
    }

    static void reload(ServiceManager manager, String text) {
        write(manager, text);
        int answer = manager.load();
        if (answer < 0) {
            throw new IllegalStateException("the text of a test has an error: " + text + ": " + answer);
        }
    }

    /** Appends a text, eight bytes a call. */
    static void write(ServiceManager manager, String text) {
        for (int from = 0; from < text.length(); from += 8) {
            manager.append(packed(text.substring(from, Math.min(text.length(), from + 8))));
        }
    }

    /** Up to eight signs as one number. */
    static long packed(String signs) {
        long bytes = 0;
        for (int index = 0; index < signs.length(); index++) {
            bytes = bytes << 8 | signs.charAt(index) & 255;
        }
        return bytes;
    }

    static int find(ServiceManager manager, String name) {
        write(manager, name);
        return manager.find();
    }

    /** A text that is read, and how many units it has. */
    void reads(String text, int units) {
        ServiceManager manager = new ServiceManager();
        write(manager, text);
        due("load() of \"" + text + "\"", manager.load(), units);
        due("loadError() of \"" + text + "\"", manager.loadError(), 0);
        due("unitCount() of \"" + text + "\"", manager.unitCount(), units);
    }

    /** A text with an error, which stands with a ^ where the error is. */
    void failsToRead(int error, String marked) {
        int position = marked.indexOf('^');
        String text = marked.substring(0, position) + marked.substring(position + 1);
        ServiceManager manager = made("service old startup 3;target older");
        manager.start(0, false);
        manager.advance(2);
        String before = everything(manager);
        write(manager, text);
        due("load() of \"" + text + "\"", manager.load(), -100 - position);
        due("loadError() of \"" + text + "\"", manager.loadError(), error);
        due("everything after \"" + text + "\"", everything(manager), before);
        due("the buffer after \"" + text + "\"", manager.append(0), 0);
    }

    /** A call that is refused with this answer, and changes nothing. */
    void refused(String what, ServiceManager manager, IntSupplier call, int want) {
        String before = whole(manager);
        due(what, call.getAsInt(), want);
        due(what + " changes nothing", whole(manager), before);
    }

    /** A unit that does not exist: the call changes nothing. */
    void noSuchUnit(String what, ServiceManager manager, IntSupplier call) {
        String before = whole(manager);
        noSuchUnit(what, call);
        due(what + " changes nothing", whole(manager), before);
    }

    /** An argument out of its range: the call changes nothing. */
    void outOfRange(String what, ServiceManager manager, IntSupplier call) {
        String before = whole(manager);
        outOfRange(what, call);
        due(what + " changes nothing", whole(manager), before);
    }

    void due(String what, long got, long want) {
        done++;
        if (got != want) {
            wrong++;
            System.out.println(what + " answered " + got + ", due is " + want);
        }
    }

    void due(String what, boolean got, boolean want) {
        due(what, got ? 1 : 0, want ? 1 : 0);
    }

    void due(String what, String got, String want) {
        done++;
        if (!got.equals(want)) {
            wrong++;
            System.out.println(what + " answered\n  " + got + "\n, due is\n  " + want);
        }
    }

    void noSuchUnit(String what, IntSupplier call) {
        thrown(what, call, IndexOutOfBoundsException.class);
    }

    void outOfRange(String what, IntSupplier call) {
        thrown(what, call, IllegalArgumentException.class);
    }

    /** The exception must be of just this class, not of one below it. */
    private void thrown(String what, IntSupplier call, Class<?> kind) {
        done++;
        String got;
        try {
            got = "answered " + call.getAsInt();
        } catch (RuntimeException exception) {
            if (exception.getClass() == kind) {
                return;
            }
            got = "threw " + exception;
        }
        wrong++;
        System.out.println(what + " " + got + ", due is " + kind.getSimpleName());
    }

    /** As many targets, named from a on, and then these relations. */
    static String targets(int count, String relations) {
        StringBuilder text = new StringBuilder("target a");
        for (int unit = 1; unit < count; unit++) {
            text.append(";target ").append((char) ('a' + unit));
        }
        return text + relations;
    }

    /** The states of all units, a digit each. */
    static String states(ServiceManager manager) {
        StringBuilder states = new StringBuilder();
        for (int unit = 0; unit < manager.unitCount(); unit++) {
            states.append(manager.stateOf(unit));
        }
        return states.toString();
    }

    /** Of each unit: the type of its job, a star if it is running, and the outcome of its latest job. */
    static String jobs(ServiceManager manager) {
        StringBuilder jobs = new StringBuilder();
        for (int unit = 0; unit < manager.unitCount(); unit++) {
            jobs.append(unit == 0 ? "" : " ").append(manager.jobOf(unit)).append(manager.isRunning(unit) ? "*" : "");
            jobs.append('/').append(manager.outcomeOf(unit));
        }
        return jobs.toString();
    }

    /** The log, with time, unit and state of each entry. */
    static String log(ServiceManager manager) {
        StringBuilder log = new StringBuilder();
        for (int index = 0; index < manager.logSize(); index++) {
            log.append(index == 0 ? "" : " ").append(manager.logEntry(index, 0)).append(':');
            log.append(manager.logEntry(index, 1)).append(':').append(manager.logEntry(index, 2));
        }
        return log.toString();
    }

    /** Lets time pass by calls of at most 1000 ticks. */
    static void letPass(ServiceManager manager, int ticks) {
        for (int left = ticks; left > 0; left -= 1000) {
            manager.advance(Math.min(left, 1000));
        }
    }

    /** Everything that the object tells without changing, the buffer and the latest load() too. */
    static String whole(ServiceManager manager) {
        return everything(manager) + "\nbuffer " + manager.append(0) + " error " + manager.loadError();
    }

    /** Everything that the object tells without changing, but for the latest result of load(). */
    static String everything(ServiceManager manager) {
        StringBuilder all = new StringBuilder();
        int count = manager.unitCount();
        all.append("units ").append(count).append(" time ").append(manager.time());
        for (int unit = 0; unit < count; unit++) {
            all.append('\n').append(configured(manager, unit)).append('\n').append(lived(manager, unit));
        }
        return all.append("\nlog ").append(log(manager)).toString();
    }

    private static String configured(ServiceManager manager, int unit) {
        StringBuilder all = new StringBuilder();
        for (int index = 0; manager.nameLetter(unit, index) != ServiceManager.NONE; index++) {
            all.append((char) manager.nameLetter(unit, index));
        }
        all.append(" kind ").append(manager.kindOf(unit)).append(" of ").append(manager.serviceOf(unit));
        all.append(" properties");
        for (int what = 0; what < 10; what++) {
            all.append(' ').append(manager.property(unit, what));
        }
        all.append(" related");
        for (int relation = 0; relation < 6; relation++) {
            all.append(' ').append(manager.related(unit, relation));
        }
        return all.toString();
    }

    private static String lived(ServiceManager manager, int unit) {
        StringBuilder all = new StringBuilder();
        all.append(" state ").append(manager.stateOf(unit)).append(" since ").append(manager.since(unit));
        all.append(" due ").append(manager.dueAt(unit)).append(" job ").append(manager.jobOf(unit));
        all.append(manager.isRunning(unit) ? " running" : " not running");
        all.append(" preceded by ").append(manager.precedingJobs(unit)).append(" outcome ").append(manager.outcomeOf(unit));
        all.append(" result ").append(manager.resultOf(unit)).append(" code ").append(manager.exitCode(unit));
        all.append(" restarts ").append(manager.restarts(unit)).append(" begins ").append(manager.begins(unit));
        all.append(" recent ").append(manager.recentBegins(unit)).append(" queued ").append(manager.queued(unit));
        all.append(" accepted ").append(manager.accepted(unit)).append(" lost ").append(manager.lost(unit));
        boolean masked = manager.setMasked(unit, true);
        manager.setMasked(unit, masked);
        all.append(masked ? " masked" : " not masked");
        return all.toString();
    }

    /** Ends the test: with exit code 1 if one answer was not as due. */
    void finish() {
        System.out.println(wrong == 0 ? done + " answers are as due" : wrong + " of " + done + " answers are not as due");
        if (wrong != 0) {
            System.exit(1);
        }
    }
}
