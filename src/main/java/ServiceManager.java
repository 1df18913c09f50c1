/**
 * A simulator of a service manager: services, sockets and targets, the transactions that start and
 * stop them, and the time in which they do so.
 *
 * A set of units is an int in which bit k stands for the unit k. Every row is made by a
 * constructor and used again: no call makes an object.
 */
public final class ServiceManager {

    public static final int NONE = -1;
    public static final int FULL = -2;
    public static final int CONFLICT = -3;
    public static final int CYCLE = -4;
    public static final int BUSY = -5;
    public static final int MASKED = -6;
    public static final int WRONG_STATE = -7;

    private static final int MOST_BYTES = 800;
    private static final int MOST_UNITS = 16;
    private static final int MOST_LETTERS = 8;
    private static final int MOST_TIME = 1000000;
    private static final int HORIZON = 1000;

    private static final int SERVICE = 0;
    private static final int SOCKET = 1;
    private static final int TARGET = 2;

    private static final int STARTUP = 0;
    private static final int STOPPING = 1;
    private static final int RUN = 2;
    private static final int EXIT = 3;
    private static final int FAILS = 4;
    private static final int POLICY = 5;
    private static final int DELAY = 6;
    private static final int BURST = 7;
    private static final int INTERVAL = 8;
    private static final int IDLE = 9;
    private static final int PROPERTIES = 10;

    private static final int NEVER = 0;
    private static final int ON_FAILURE = 1;
    private static final int ALWAYS = 2;

    private static final int REQUIRES = 0;
    private static final int WANTS = 1;
    private static final int BINDS = 2;
    private static final int PARTOF = 3;
    private static final int CONFLICTS = 4;
    private static final int AFTER = 5;
    private static final int RELATIONS = 6;
    private static final int BEFORE = 6;

    private static final int INACTIVE = 0;
    private static final int ACTIVATING = 1;
    private static final int ACTIVE = 2;
    private static final int DEACTIVATING = 3;
    private static final int FAILED = 4;
    private static final int AWAITING = 5;

    private static final int NO_JOB = 0;
    private static final int START = 1;
    private static final int STOP = 2;
    private static final int RESTART = 3;

    private static final int DONE = 0;
    private static final int JOB_FAILED = 1;
    private static final int BY_DEPENDENCIES = 2;
    private static final int BY_LIMIT = 3;
    private static final int CANCELLED = 4;

    private static final int SUCCESS = 0;
    private static final int BAD_EXIT = 1;
    private static final int LIMIT_HIT = 3;

    private final int[] buffer = new int[MOST_BYTES];
    private int length;
    private int latestError;
    private final Reader reader = new Reader();
    private final World real = new World();
    /** The world of predictions. */
    private final World trial = new World();
    private final World firstSnapshot = new World();
    private final World secondSnapshot = new World();
    private boolean firstIsSaved;
    private boolean secondIsSaved;

    public ServiceManager() {
        length = 0;
        latestError = 0;
    }

    // ---- configuration

    public int append(long bytes) {
        int added = 0;
        for (int shift = 56; shift >= 0; shift -= 8) {
            if ((bytes >>> shift & 255L) != 0) {
                added++;
            }
        }
        if (length + added > MOST_BYTES) {
            return FULL;
        }
        for (int shift = 56; shift >= 0; shift -= 8) {
            int next = (int) (bytes >>> shift & 255L);
            if (next != 0 && length < MOST_BYTES) {
                buffer[length] = next;
                length++;
            }
        }
        return length;
    }

    public int load() {
        int bytes = length;
        length = 0;
        boolean good = reader.read(buffer, bytes);
        latestError = reader.error;
        if (!good) {
            return -100 - reader.errorPosition;
        }
        real.beginAnew(reader.draft);
        return real.setup.count;
    }

    public int loadError() {
        return latestError;
    }

    public int find() {
        int bytes = length;
        length = 0;
        return real.setup.named(buffer, 0, bytes);
    }

    public int unitCount() {
        return real.setup.count;
    }

    public int kindOf(int unit) throws IndexOutOfBoundsException {
        checkUnit(unit);
        return real.setup.kind[unit];
    }

    public int nameLetter(int unit, int index) throws IndexOutOfBoundsException {
        checkUnit(unit);
        if (index < 0 || index >= real.setup.nameLength[unit]) {
            return NONE;
        }
        return real.setup.letters[unit * MOST_LETTERS + index];
    }

    public int property(int unit, int what) throws IndexOutOfBoundsException, IllegalArgumentException {
        checkUnit(unit);
        checkRange(what, 0, PROPERTIES - 1);
        return real.setup.kind[unit] == SERVICE ? real.setup.properties[unit * PROPERTIES + what] : NONE;
    }

    public int related(int unit, int relation) throws IndexOutOfBoundsException, IllegalArgumentException {
        checkUnit(unit);
        checkRange(relation, 0, RELATIONS - 1);
        return real.setup.relations[relation][unit];
    }

    public int serviceOf(int unit) throws IndexOutOfBoundsException {
        checkUnit(unit);
        return real.setup.service[unit];
    }

    // ---- jobs

    public int start(int unit, boolean replace) throws IndexOutOfBoundsException {
        checkUnit(unit);
        int answer = real.order(unit, START, replace);
        if (answer > 0) {
            real.runJobs();
        }
        return answer;
    }

    public int stop(int unit, boolean replace) throws IndexOutOfBoundsException {
        checkUnit(unit);
        int answer = real.order(unit, STOP, replace);
        if (answer > 0) {
            real.runJobs();
        }
        return answer;
    }

    public int restart(int unit, boolean replace) throws IndexOutOfBoundsException {
        checkUnit(unit);
        int answer = real.order(unit, RESTART, replace);
        if (answer > 0) {
            real.runJobs();
        }
        return answer;
    }

    public int plan(int unit, int type, int which) throws IndexOutOfBoundsException, IllegalArgumentException {
        checkUnit(unit);
        checkRange(type, START, RESTART);
        checkRange(which, 0, 4);
        int failure = real.transaction.build(real, unit, type);
        return failure != 0 ? failure : real.transaction.jobsOf(which);
    }

    public int planDepth(int unit, int type) throws IndexOutOfBoundsException, IllegalArgumentException {
        checkUnit(unit);
        checkRange(type, START, RESTART);
        int failure = real.transaction.build(real, unit, type);
        return failure != 0 ? failure : real.transaction.longestChain();
    }

    public int cancel(int unit) throws IndexOutOfBoundsException {
        checkUnit(unit);
        if (!real.jobs.isWaiting(unit)) {
            return WRONG_STATE;
        }
        real.withdraw(unit);
        real.runJobs();
        return real.jobs.count();
    }

    public int jobOf(int unit) throws IndexOutOfBoundsException {
        checkUnit(unit);
        return real.jobs.typeOf(unit);
    }

    public boolean isRunning(int unit) throws IndexOutOfBoundsException {
        checkUnit(unit);
        return (real.jobs.running >> unit & 1) != 0;
    }

    public int precedingJobs(int unit) throws IndexOutOfBoundsException {
        checkUnit(unit);
        return real.setup.preceding(unit, real.jobs.starts, real.jobs.stops);
    }

    public int queueLength() {
        return real.jobs.count();
    }

    public int outcomeOf(int unit) throws IndexOutOfBoundsException {
        checkUnit(unit);
        return real.jobs.outcome[unit];
    }

    // ---- time and events

    public int advance(int ticks) throws IllegalArgumentException {
        checkRange(ticks, 1, 1000);
        if (real.now + ticks > MOST_TIME) {
            return FULL;
        }
        real.passTo(real.now + ticks);
        return real.now;
    }

    public int time() {
        return real.now;
    }

    public int connect(int unit, int count) throws IndexOutOfBoundsException, IllegalArgumentException {
        checkUnit(unit);
        checkRange(count, 1, 100);
        if (real.setup.kind[unit] != SOCKET || real.state[unit] != ACTIVE) {
            return WRONG_STATE;
        }
        int taken = real.letArrive(unit, count);
        real.runJobs();
        return taken;
    }

    public int kill(int unit, int code) throws IndexOutOfBoundsException, IllegalArgumentException {
        checkUnit(unit);
        checkRange(code, 0, 255);
        if (!real.canCrash(unit)) {
            return WRONG_STATE;
        }
        real.crash(unit, code);
        real.runJobs();
        return real.state[unit];
    }

    public boolean reset(int unit) throws IndexOutOfBoundsException {
        checkUnit(unit);
        if (!real.forget(unit)) {
            return false;
        }
        real.runJobs();
        return true;
    }

    public boolean setMasked(int unit, boolean masked) throws IndexOutOfBoundsException {
        checkUnit(unit);
        boolean before = (real.masked >> unit & 1) != 0;
        real.masked = masked ? real.masked | 1 << unit : real.masked & ~(1 << unit);
        return before;
    }

    // ---- states

    public int stateOf(int unit) throws IndexOutOfBoundsException {
        checkUnit(unit);
        return real.state[unit];
    }

    public int inState(int state) throws IllegalArgumentException {
        checkRange(state, INACTIVE, AWAITING);
        return real.unitsIn(1 << state);
    }

    public int resultOf(int unit) throws IndexOutOfBoundsException {
        checkUnit(unit);
        return real.result[unit];
    }

    public int exitCode(int unit) throws IndexOutOfBoundsException {
        checkUnit(unit);
        return real.code[unit];
    }

    public int since(int unit) throws IndexOutOfBoundsException {
        checkUnit(unit);
        return real.changed[unit];
    }

    public int dueAt(int unit) throws IndexOutOfBoundsException {
        checkUnit(unit);
        int due = real.dueOf(unit);
        return due > real.now ? due : NONE;
    }

    public int restarts(int unit) throws IndexOutOfBoundsException {
        checkUnit(unit);
        return real.policyStarts[unit];
    }

    public int begins(int unit) throws IndexOutOfBoundsException {
        checkUnit(unit);
        return real.beginsInAll[unit];
    }

    public int recentBegins(int unit) throws IndexOutOfBoundsException {
        checkUnit(unit);
        return real.setup.kind[unit] == SERVICE ? real.beginsInInterval(unit) : NONE;
    }

    public int queued(int unit) throws IndexOutOfBoundsException {
        checkUnit(unit);
        return real.setup.kind[unit] == SOCKET ? real.queue[unit] : NONE;
    }

    public int accepted(int unit) throws IndexOutOfBoundsException {
        checkUnit(unit);
        return real.setup.kind[unit] == SOCKET ? real.served[unit] : NONE;
    }

    public int lost(int unit) throws IndexOutOfBoundsException {
        checkUnit(unit);
        return real.setup.kind[unit] == SOCKET ? real.turnedAway[unit] : NONE;
    }

    public int logSize() {
        return real.keptChanges();
    }

    public int logEntry(int index, int what) throws IllegalArgumentException {
        checkRange(what, 0, 2);
        return real.partOfChange(index, what);
    }

    // ---- analysis

    public int allNeeded(int unit) throws IndexOutOfBoundsException {
        checkUnit(unit);
        return reach(real.setup.needs, real.setup.needs[unit]);
    }

    public int allStopped(int unit) throws IndexOutOfBoundsException {
        checkUnit(unit);
        return reach(real.setup.followers, 1 << unit);
    }

    public int orderingCircle() {
        return inCircles(real.setup.relations[AFTER]);
    }

    public boolean isSound() {
        int active = real.unitsIn(1 << ACTIVE);
        for (int unit = 0; unit < real.setup.count; unit++) {
            if ((active >> unit & 1) != 0 && (real.setup.needs[unit] & ~active) != 0) {
                return false;
            }
        }
        return true;
    }

    public int ticksUntilActive(int unit) throws IndexOutOfBoundsException {
        checkUnit(unit);
        trial.copyFrom(real);
        int answer = trial.order(unit, START, true);
        if (answer < 0) {
            return answer;
        }
        trial.runJobs();
        int end = real.now + HORIZON;
        for (int tick = 0; tick < HORIZON && trial.state[unit] != ACTIVE && trial.now < end; tick++) {
            trial.passTo(Math.min(end, trial.nextDue()));
        }
        return trial.state[unit] == ACTIVE ? trial.now - real.now : NONE;
    }

    public int ticksUntilQuiet() {
        trial.copyFrom(real);
        int end = real.now + HORIZON;
        for (int tick = 0; tick < HORIZON && !trial.isQuiet() && trial.now < end; tick++) {
            trial.passTo(Math.min(end, trial.nextDue()));
        }
        return trial.isQuiet() ? trial.now - real.now : NONE;
    }

    public int stateAfter(int unit, int ticks) throws IndexOutOfBoundsException, IllegalArgumentException {
        checkUnit(unit);
        checkRange(ticks, 0, 1000);
        trial.copyFrom(real);
        trial.passTo(trial.now + ticks);
        return trial.state[unit];
    }

    public int damageOf(int unit, int ticks) throws IndexOutOfBoundsException, IllegalArgumentException {
        checkUnit(unit);
        checkRange(ticks, 0, 200);
        if (!real.canCrash(unit)) {
            return 0;
        }
        trial.copyFrom(real);
        trial.crash(unit, 1);
        trial.runJobs();
        trial.passTo(trial.now + ticks);
        return real.unitsIn(1 << ACTIVE) & ~trial.unitsIn(1 << ACTIVE);
    }

    public int weakest() {
        int weakest = NONE;
        int most = -1;
        for (int unit = 0; unit < real.setup.count; unit++) {
            int damage = 0;
            if (real.canCrash(unit)) {
                trial.copyFrom(real);
                trial.crash(unit, 1);
                trial.runJobs();
                damage = Integer.bitCount(real.unitsIn(1 << ACTIVE) & ~trial.unitsIn(1 << ACTIVE));
            }
            if (damage > most) {
                most = damage;
                weakest = unit;
            }
        }
        return weakest;
    }

    public int criticalTime(int unit) throws IndexOutOfBoundsException {
        checkUnit(unit);
        int failure = real.transaction.build(real, unit, START);
        return failure != 0 ? failure : real.transaction.longestStartup(real.setup);
    }

    public int saveSnapshot(int slot) throws IllegalArgumentException {
        checkRange(slot, 0, 1);
        if (slot == 0) {
            firstSnapshot.copyFrom(real);
            firstIsSaved = true;
        } else {
            secondSnapshot.copyFrom(real);
            secondIsSaved = true;
        }
        return real.now;
    }

    public int restoreSnapshot(int slot) throws IllegalArgumentException {
        checkRange(slot, 0, 1);
        boolean isSaved = slot == 0 ? firstIsSaved : secondIsSaved;
        if (!isSaved) {
            return NONE;
        }
        real.copyFrom(slot == 0 ? firstSnapshot : secondSnapshot);
        return real.now;
    }

    // ---- what several methods share

    private void checkUnit(int unit) {
        if (unit < 0 || unit >= real.setup.count) {
            throw new IndexOutOfBoundsException("there is no such unit");
        }
    }

    private static void checkRange(int value, int least, int greatest) {
        if (value < least || value > greatest) {
            throw new IllegalArgumentException("an argument is out of its range");
        }
    }

    /** The units of a set, and all to which chains of edges lead from them. */
    private static int reach(int[] edges, int seeds) {
        int reached = seeds;
        for (int round = 0; round < MOST_UNITS; round++) {
            int before = reached;
            for (int unit = 0; unit < edges.length && unit < MOST_UNITS; unit++) {
                if ((reached >> unit & 1) != 0) {
                    reached |= edges[unit];
                }
            }
            if (reached == before) {
                return reached;
            }
        }
        return reached;
    }

    /** The units from which a chain of edges leads back to themselves. */
    private static int inCircles(int[] edges) {
        int circles = 0;
        for (int unit = 0; unit < edges.length && unit < MOST_UNITS; unit++) {
            circles |= reach(edges, edges[unit]) & 1 << unit;
        }
        return circles;
    }

    /** The type of the job of a unit, where the starts are the jobs to start or to restart. */
    private static int typeIn(int starts, int restarting, int stops, int unit) {
        if ((stops >> unit & 1) != 0) {
            return STOP;
        }
        if ((starts >> unit & 1) == 0) {
            return NO_JOB;
        }
        return (restarting >> unit & 1) != 0 ? RESTART : START;
    }

    /** The units as a text describes them; only another text changes them. */
    private static final class Setup {

        private int count;
        private final int[] kind = new int[MOST_UNITS];
        private final int[] nameLength = new int[MOST_UNITS];
        private final int[] letters = new int[MOST_UNITS * MOST_LETTERS];
        private final int[] properties = new int[MOST_UNITS * PROPERTIES];
        private final int[] service = new int[MOST_UNITS];
        private final int[] backlog = new int[MOST_UNITS];
        private final int[][] relations = new int[RELATIONS][MOST_UNITS];
        // what follows from the relations; later holds the units that are ordered after a unit
        private final int[] needs = new int[MOST_UNITS];
        private final int[] opponents = new int[MOST_UNITS];
        private final int[] followers = new int[MOST_UNITS];
        private final int[] later = new int[MOST_UNITS];

        private void clear() {
            count = 0;
            for (int relation = 0; relation < RELATIONS; relation++) {
                for (int unit = 0; unit < MOST_UNITS; unit++) {
                    relations[relation][unit] = 0;
                }
            }
        }

        /** Adds a unit with the properties that hold without a word about them; there must be room. */
        private int add(int newKind, int[] text, int from, int size) {
            if (count >= MOST_UNITS || from < 0 || size > MOST_LETTERS || from + size > text.length) {
                return NONE;
            }
            int unit = count;
            count++;
            kind[unit] = newKind;
            nameLength[unit] = size;
            for (int index = 0; index < size; index++) {
                letters[unit * MOST_LETTERS + index] = text[from + index];
            }
            for (int what = 0; what < PROPERTIES; what++) {
                properties[unit * PROPERTIES + what] = 0;
            }
            properties[unit * PROPERTIES + DELAY] = 1;
            properties[unit * PROPERTIES + BURST] = 5;
            properties[unit * PROPERTIES + INTERVAL] = 10;
            service[unit] = NONE;
            backlog[unit] = 0;
            return unit;
        }

        /** The unit whose name is the part of the text, or NONE. */
        private int named(int[] text, int from, int size) {
            if (from < 0 || size > MOST_LETTERS || from + size > text.length) {
                return NONE;
            }
            for (int unit = 0; unit < count; unit++) {
                boolean same = nameLength[unit] == size;
                for (int index = 0; same && index < size; index++) {
                    same = letters[unit * MOST_LETTERS + index] == text[from + index];
                }
                if (same) {
                    return unit;
                }
            }
            return NONE;
        }

        private void derive() {
            for (int unit = 0; unit < MOST_UNITS; unit++) {
                needs[unit] = relations[REQUIRES][unit] | relations[BINDS][unit];
                opponents[unit] = relations[CONFLICTS][unit];
                followers[unit] = 0;
                later[unit] = 0;
            }
            for (int unit = 0; unit < MOST_UNITS; unit++) {
                for (int other = 0; other < MOST_UNITS; other++) {
                    int bit = 1 << other;
                    if ((relations[CONFLICTS][unit] & bit) != 0) {
                        opponents[other] |= 1 << unit;
                    }
                    if (((needs[unit] | relations[PARTOF][unit]) & bit) != 0) {
                        followers[other] |= 1 << unit;
                    }
                    if ((relations[AFTER][unit] & bit) != 0) {
                        later[other] |= 1 << unit;
                    }
                }
            }
        }

        /** The units whose jobs precede that of a unit; the starts are those to start or to restart. */
        private int preceding(int unit, int starts, int stops) {
            int earlier = relations[AFTER][unit];
            if ((starts >> unit & 1) != 0) {
                return earlier & starts | (earlier | later[unit]) & stops;
            }
            if ((stops >> unit & 1) != 0) {
                return later[unit] & stops;
            }
            return 0;
        }

        private void copyFrom(Setup other) {
            count = other.count;
            System.arraycopy(other.kind, 0, kind, 0, MOST_UNITS);
            System.arraycopy(other.nameLength, 0, nameLength, 0, MOST_UNITS);
            System.arraycopy(other.letters, 0, letters, 0, MOST_UNITS * MOST_LETTERS);
            System.arraycopy(other.properties, 0, properties, 0, MOST_UNITS * PROPERTIES);
            System.arraycopy(other.service, 0, service, 0, MOST_UNITS);
            System.arraycopy(other.backlog, 0, backlog, 0, MOST_UNITS);
            for (int relation = 0; relation < RELATIONS; relation++) {
                System.arraycopy(other.relations[relation], 0, relations[relation], 0, MOST_UNITS);
            }
            System.arraycopy(other.needs, 0, needs, 0, MOST_UNITS);
            System.arraycopy(other.opponents, 0, opponents, 0, MOST_UNITS);
            System.arraycopy(other.followers, 0, followers, 0, MOST_UNITS);
            System.arraycopy(other.later, 0, later, 0, MOST_UNITS);
        }
    }

    /** Reads a text into a draft, and tells the first error in it. */
    private static final class Reader {

        private static final int END = 0;
        private static final int WORD = 1;
        private static final int NUMBER = 2;
        private static final int SEMICOLON = 3;
        private static final int OTHER = 4;

        private static final int[] LEAST = {0, 0, 0, 0, 0, 0, 1, 1, 1, 0};
        private static final int[] GREATEST = {100, 100, 1000, 255, 9, 2, 100, 9, 1000, 1000};

        private final Setup draft = new Setup();
        private int[] text = new int[0];
        private int size;
        /** The part of the text that is looked at: its kind, its first byte, and what follows it. */
        private int part;
        private int from;
        private int to;
        private int error;
        private int errorPosition;

        /** Answers whether the text has no error. */
        private boolean read(int[] newText, int newSize) {
            text = newText;
            size = Math.min(newSize, newText.length);
            to = 0;
            error = 0;
            errorPosition = 0;
            draft.clear();
            goOn();
            for (int statements = 0; statements <= size; statements++) {
                readStatement();
                if (error == 0 && part == END) {
                    draft.derive();
                    return true;
                }
                if (error == 0 && part != SEMICOLON) {
                    refuse(1, from);
                }
                if (error != 0) {
                    return false;
                }
                goOn();
            }
            return false;
        }

        private void refuse(int number, int position) {
            error = number;
            errorPosition = position;
        }

        /** Goes on to the next word, number or other byte. */
        private void goOn() {
            from = to;
            while (from < size && text[from] == ' ') {
                from++;
            }
            to = from;
            if (from >= size) {
                part = END;
                return;
            }
            while (to < size && text[to] >= 'a' && text[to] <= 'z') {
                to++;
            }
            if (to > from) {
                part = WORD;
                return;
            }
            while (to < size && text[to] >= '0' && text[to] <= '9') {
                to++;
            }
            if (to > from) {
                part = NUMBER;
                return;
            }
            part = text[from] == ';' ? SEMICOLON : OTHER;
            to++;
        }

        private boolean isWord(String word) {
            if (part != WORD || to - from != word.length()) {
                return false;
            }
            for (int index = 0; index < word.length() && from + index < text.length; index++) {
                if (text[from + index] != word.charAt(index)) {
                    return false;
                }
            }
            return true;
        }

        private void readStatement() {
            int kind = newKind();
            if (kind == NONE) {
                readRelation();
                return;
            }
            if (draft.count >= MOST_UNITS) {
                refuse(4, from);
                return;
            }
            goOn();
            int unit = readNewUnit(kind);
            if (unit == NONE) {
                return;
            }
            if (kind == SERVICE) {
                // each property takes at least one byte, so there are no more than bytes
                for (int properties = 0; properties < size && error == 0 && part == WORD; properties++) {
                    readProperty(unit);
                }
            } else if (kind == SOCKET) {
                readSocket(unit);
            }
        }

        /** The kind of unit that the word describes, or NONE. */
        private int newKind() {
            if (isWord("service")) {
                return SERVICE;
            }
            if (isWord("socket")) {
                return SOCKET;
            }
            return isWord("target") ? TARGET : NONE;
        }

        private int readNewUnit(int kind) {
            if (part != WORD) {
                refuse(1, from);
                return NONE;
            }
            if (to - from > MOST_LETTERS || newKind() != NONE || draft.named(text, from, to - from) != NONE) {
                refuse(3, from);
                return NONE;
            }
            int unit = draft.add(kind, text, from, to - from);
            goOn();
            return unit;
        }

        private void readSocket(int unit) {
            int service = readUnit();
            if (service == NONE) {
                return;
            }
            if (draft.kind[service] != SERVICE) {
                refuse(3, from);
                return;
            }
            goOn();
            int backlog = readNumber(1, 50);
            if (backlog != NONE) {
                draft.service[unit] = service;
                draft.backlog[unit] = backlog;
            }
        }

        /** The unit that is named here; it stays the part that is looked at. */
        private int readUnit() {
            if (part != WORD) {
                refuse(1, from);
                return NONE;
            }
            int unit = draft.named(text, from, to - from);
            if (unit == NONE) {
                refuse(3, from);
            }
            return unit;
        }

        private int readNumber(int least, int greatest) {
            if (part != NUMBER) {
                refuse(1, from);
                return NONE;
            }
            int value = 0;
            for (int index = from; index < to && index < text.length; index++) {
                // no range goes to ten thousand, and so the value cannot wrap round
                value = Math.min(value * 10 + text[index] - '0', 10000);
            }
            if (value < least || value > greatest) {
                refuse(2, from);
                return NONE;
            }
            goOn();
            return value;
        }

        private void readProperty(int unit) {
            int what = namedProperty();
            if (what == NONE) {
                refuse(1, from);
                return;
            }
            goOn();
            if (what == POLICY) {
                readPolicy(unit);
                return;
            }
            readValue(unit, what);
            if (what == BURST && error == 0) {
                readValue(unit, INTERVAL);
            }
        }

        private int namedProperty() {
            if (isWord("startup")) {
                return STARTUP;
            }
            if (isWord("stopping")) {
                return STOPPING;
            }
            if (isWord("run")) {
                return RUN;
            }
            if (isWord("exit")) {
                return EXIT;
            }
            if (isWord("fails")) {
                return FAILS;
            }
            if (isWord("restart")) {
                return POLICY;
            }
            if (isWord("delay")) {
                return DELAY;
            }
            if (isWord("limit")) {
                return BURST;
            }
            return isWord("idle") ? IDLE : NONE;
        }

        private void readValue(int unit, int what) {
            int value = readNumber(LEAST[what], GREATEST[what]);
            if (value != NONE) {
                draft.properties[unit * PROPERTIES + what] = value;
            }
        }

        private void readPolicy(int unit) {
            int policy = NONE;
            if (isWord("never")) {
                policy = NEVER;
            } else if (isWord("failure")) {
                policy = ON_FAILURE;
            } else if (isWord("always")) {
                policy = ALWAYS;
            }
            if (policy == NONE) {
                refuse(1, from);
                return;
            }
            draft.properties[unit * PROPERTIES + POLICY] = policy;
            goOn();
        }

        private void readRelation() {
            int unit = part == WORD ? draft.named(text, from, to - from) : NONE;
            if (unit == NONE) {
                refuse(1, from);
                return;
            }
            goOn();
            int relation = namedRelation();
            if (relation == NONE) {
                refuse(1, from);
                return;
            }
            goOn();
            int other = readUnit();
            if (other == NONE) {
                return;
            }
            if (other == unit) {
                refuse(3, from);
                return;
            }
            if (relation == BEFORE) {
                draft.relations[AFTER][other] |= 1 << unit;
            } else {
                draft.relations[relation][unit] |= 1 << other;
            }
            goOn();
        }

        private int namedRelation() {
            if (isWord("requires")) {
                return REQUIRES;
            }
            if (isWord("wants")) {
                return WANTS;
            }
            if (isWord("binds")) {
                return BINDS;
            }
            if (isWord("partof")) {
                return PARTOF;
            }
            if (isWord("conflicts")) {
                return CONFLICTS;
            }
            if (isWord("after")) {
                return AFTER;
            }
            return isWord("before") ? BEFORE : NONE;
        }
    }

    /**
     * The jobs that one call would bring. Only restarts pull in restarts, and the first job is
     * essential: so every restart is essential, and which jobs are essential does not hang on bans.
     */
    private static final class Transaction {

        /** The jobs to start or to restart, those of them to restart, and the jobs to stop. */
        private int starts;
        private int restarting;
        private int stops;
        private int essentialStarts;
        private int essentialStops;
        /** The units that may get no job to start (or to stop) that is not essential. */
        private int leftOutStarts;
        private int leftOutStops;
        private final int[] before = new int[MOST_UNITS];
        private final int[] weight = new int[MOST_UNITS];
        private final int[] total = new int[MOST_UNITS];

        /** Builds the transaction of a call; answers 0, or the code with which it fails. */
        private int build(World world, int unit, int type) {
            int alive = 1 << ACTIVATING | 1 << ACTIVE | 1 << DEACTIVATING | 1 << AWAITING;
            collectEssential(world.setup, unit, type, world.unitsIn(alive));
            if ((essentialStarts & world.masked) != 0) {
                return MASKED;
            }
            if ((essentialStarts & essentialStops) != 0) {
                return CONFLICT;
            }
            int withoutJob = ~(world.jobs.starts | world.jobs.stops);
            int needlessStarts = world.unitsIn(1 << ACTIVE) & withoutJob & ~restarting;
            int needlessStops = world.unitsIn(1 << INACTIVE | 1 << FAILED) & withoutJob;
            leftOutStarts = world.masked;
            leftOutStops = 0;
            // each time but the last one bans a job, and there are two for each unit
            for (int bans = 0; bans <= 2 * MOST_UNITS; bans++) {
                collectAll(world.setup);
                int torn = starts & stops;
                if (torn != 0) {
                    banOneOf(torn & -torn);
                    continue;
                }
                starts &= ~needlessStarts;
                stops &= ~needlessStops;
                noteBefore(world.setup);
                int circles = inCircles(before);
                if (circles == 0) {
                    return 0;
                }
                int optional = circles & ~essentialJobs();
                if (optional == 0) {
                    return CYCLE;
                }
                banJobOf(greatest(optional));
            }
            return CYCLE;
        }

        private void collectEssential(Setup setup, int unit, int type, int alive) {
            starts = type == STOP ? 0 : 1 << unit;
            restarting = type == RESTART ? 1 << unit : 0;
            stops = type == STOP ? 1 << unit : 0;
            // each round but the last one adds a job, and there are three for each unit
            for (int round = 0; round <= 3 * MOST_UNITS; round++) {
                int beforeStarts = starts;
                int beforeRestarting = restarting;
                int beforeStops = stops;
                for (int puller = 0; puller < MOST_UNITS; puller++) {
                    if ((starts >> puller & 1) != 0) {
                        starts |= setup.needs[puller];
                        stops |= setup.opponents[puller];
                    }
                    if ((restarting >> puller & 1) != 0) {
                        restarting |= setup.followers[puller] & alive;
                        starts |= restarting;
                    }
                    if ((stops >> puller & 1) != 0) {
                        stops |= setup.followers[puller];
                    }
                }
                if (starts == beforeStarts && restarting == beforeRestarting && stops == beforeStops) {
                    break;
                }
            }
            essentialStarts = starts;
            essentialStops = stops;
        }

        private void collectAll(Setup setup) {
            starts = essentialStarts;
            stops = essentialStops;
            for (int round = 0; round <= 2 * MOST_UNITS; round++) {
                int beforeStarts = starts;
                int beforeStops = stops;
                for (int puller = 0; puller < MOST_UNITS; puller++) {
                    if ((starts >> puller & 1) != 0) {
                        starts |= (setup.needs[puller] | setup.relations[WANTS][puller]) & ~leftOutStarts;
                        stops |= setup.opponents[puller] & ~leftOutStops;
                    }
                    if ((stops >> puller & 1) != 0) {
                        stops |= setup.followers[puller] & ~leftOutStops;
                    }
                }
                if (starts == beforeStarts && stops == beforeStops) {
                    return;
                }
            }
        }

        /** Of the two jobs of a unit, bans the one to start unless it is essential. */
        private void banOneOf(int bit) {
            if ((essentialStarts & bit) == 0) {
                leftOutStarts |= bit;
            } else {
                leftOutStops |= bit;
            }
        }

        private void banJobOf(int bit) {
            if ((starts & bit) != 0) {
                leftOutStarts |= bit;
            } else {
                leftOutStops |= bit;
            }
        }

        private static int greatest(int set) {
            int bit = 1 << MOST_UNITS - 1;
            for (int unit = MOST_UNITS - 1; unit > 0 && (set & bit) == 0; unit--) {
                bit = 1 << unit - 1;
            }
            return bit;
        }

        /** Notes which jobs precede each job. */
        private void noteBefore(Setup setup) {
            for (int unit = 0; unit < MOST_UNITS; unit++) {
                before[unit] = setup.preceding(unit, starts, stops);
            }
        }

        private int essentialJobs() {
            return starts & essentialStarts | stops & essentialStops;
        }

        /** All jobs (0), those of a type (1 to 3), or the essential ones (4). */
        private int jobsOf(int which) {
            switch (which) {
                case 0:
                    return starts | stops;
                case START:
                    return starts & ~restarting;
                case STOP:
                    return stops;
                case RESTART:
                    return starts & restarting;
                default:
                    return essentialJobs();
            }
        }

        private int typeOf(int unit) {
            return typeIn(starts, restarting, stops, unit);
        }

        /** The number of jobs in the longest chain. */
        private int longestChain() {
            for (int unit = 0; unit < MOST_UNITS; unit++) {
                weight[unit] = 1;
            }
            return greatestTotal(starts | stops);
        }

        /** The greatest sum of startup in a chain of jobs to start or restart. */
        private int longestStartup(Setup setup) {
            for (int unit = 0; unit < MOST_UNITS; unit++) {
                boolean counts = setup.kind[unit] == SERVICE;
                weight[unit] = counts ? setup.properties[unit * PROPERTIES + STARTUP] : 0;
            }
            return greatestTotal(starts);
        }

        /** The greatest sum of weights in a chain of jobs of these units. */
        private int greatestTotal(int among) {
            for (int unit = 0; unit < MOST_UNITS; unit++) {
                total[unit] = 0;
            }
            int greatest = 0;
            // no chain is longer than there are units
            for (int round = 0; round < MOST_UNITS; round++) {
                for (int unit = 0; unit < MOST_UNITS; unit++) {
                    if ((among >> unit & 1) != 0) {
                        total[unit] = weight[unit] + greatestOf(before[unit] & among);
                        greatest = Math.max(greatest, total[unit]);
                    }
                }
            }
            return greatest;
        }

        private int greatestOf(int set) {
            int greatest = 0;
            for (int unit = 0; unit < MOST_UNITS; unit++) {
                if ((set >> unit & 1) != 0) {
                    greatest = Math.max(greatest, total[unit]);
                }
            }
            return greatest;
        }
    }

    /** The queue of jobs, and how the latest job of each unit ended. */
    private static final class Jobs {

        /** The jobs to start or to restart, those of them to restart, and the jobs to stop. */
        private int starts;
        private int restarting;
        private int stops;
        private int running;
        private final int[] outcome = new int[MOST_UNITS];

        private void clear() {
            starts = 0;
            restarting = 0;
            stops = 0;
            running = 0;
            for (int unit = 0; unit < MOST_UNITS; unit++) {
                outcome[unit] = NONE;
            }
        }

        private void copyFrom(Jobs other) {
            starts = other.starts;
            restarting = other.restarting;
            stops = other.stops;
            running = other.running;
            System.arraycopy(other.outcome, 0, outcome, 0, MOST_UNITS);
        }

        private int count() {
            return Integer.bitCount(starts | stops);
        }

        private int typeOf(int unit) {
            return typeIn(starts, restarting, stops, unit);
        }

        private boolean isWaiting(int unit) {
            return ((starts | stops) & ~running & 1 << unit) != 0;
        }

        /** Gives a unit this job, which is waiting, in the place of any other. */
        private void put(int unit, int type) {
            int bit = 1 << unit;
            starts = type == STOP ? starts & ~bit : starts | bit;
            restarting = type == RESTART ? restarting | bit : restarting & ~bit;
            stops = type == STOP ? stops | bit : stops & ~bit;
            running &= ~bit;
        }

        private void end(int unit, int how) {
            int others = ~(1 << unit);
            starts &= others;
            restarting &= others;
            stops &= others;
            running &= others;
            outcome[unit] = how;
        }

        /** When a unit goes down: a stop is done, a restart goes on as a start; answers whether it had one. */
        private boolean settle(int unit) {
            int bit = 1 << unit;
            if ((stops & bit) != 0) {
                stops &= ~bit;
                running &= ~bit;
                outcome[unit] = DONE;
                return true;
            }
            if ((restarting & bit) != 0) {
                restarting &= ~bit;
                running &= ~bit;
                return true;
            }
            return false;
        }
    }

    /** Everything that a snapshot holds: the units, their states at a time, and what happens to them. */
    private static final class World {

        /** BURST is at most 9, so older begins never count. */
        private static final int KEPT_BEGINS = 9;
        private static final int MOST_LOGGED = 60;
        private static final int LOG_PARTS = 3;
        private static final int NO_TIME = 2147483647;

        private final Setup setup = new Setup();
        private final Transaction transaction = new Transaction();
        private final Jobs jobs = new Jobs();
        private int now;
        private int masked;
        private final int[] state = new int[MOST_UNITS];
        private final int[] changed = new int[MOST_UNITS];
        private final int[] result = new int[MOST_UNITS];
        private final int[] code = new int[MOST_UNITS];
        /** When a service became active or the latest connection to it was accepted. */
        private final int[] lastUse = new int[MOST_UNITS];
        /** The begins since the unit was reset, and the times of the latest ones. */
        private final int[] activations = new int[MOST_UNITS];
        private final int[] beginTimes = new int[MOST_UNITS * KEPT_BEGINS];
        private final int[] beginsInAll = new int[MOST_UNITS];
        private final int[] policyStarts = new int[MOST_UNITS];
        private final int[] queue = new int[MOST_UNITS];
        private final int[] served = new int[MOST_UNITS];
        private final int[] turnedAway = new int[MOST_UNITS];
        /** A ring of changes of states: time, unit and state of each. */
        private final int[] log = new int[MOST_LOGGED * LOG_PARTS];
        private int logged;

        private void beginAnew(Setup newSetup) {
            setup.copyFrom(newSetup);
            jobs.clear();
            logged = 0;
            now = 0;
            masked = 0;
            for (int unit = 0; unit < MOST_UNITS; unit++) {
                state[unit] = INACTIVE;
                changed[unit] = 0;
                result[unit] = SUCCESS;
                code[unit] = 0;
                lastUse[unit] = 0;
                activations[unit] = 0;
                beginsInAll[unit] = 0;
                policyStarts[unit] = 0;
                queue[unit] = 0;
                served[unit] = 0;
                turnedAway[unit] = 0;
            }
        }

        private void copyFrom(World other) {
            setup.copyFrom(other.setup);
            jobs.copyFrom(other.jobs);
            now = other.now;
            masked = other.masked;
            System.arraycopy(other.state, 0, state, 0, MOST_UNITS);
            System.arraycopy(other.changed, 0, changed, 0, MOST_UNITS);
            System.arraycopy(other.result, 0, result, 0, MOST_UNITS);
            System.arraycopy(other.code, 0, code, 0, MOST_UNITS);
            System.arraycopy(other.lastUse, 0, lastUse, 0, MOST_UNITS);
            System.arraycopy(other.activations, 0, activations, 0, MOST_UNITS);
            System.arraycopy(other.beginTimes, 0, beginTimes, 0, MOST_UNITS * KEPT_BEGINS);
            System.arraycopy(other.beginsInAll, 0, beginsInAll, 0, MOST_UNITS);
            System.arraycopy(other.policyStarts, 0, policyStarts, 0, MOST_UNITS);
            System.arraycopy(other.queue, 0, queue, 0, MOST_UNITS);
            System.arraycopy(other.served, 0, served, 0, MOST_UNITS);
            System.arraycopy(other.turnedAway, 0, turnedAway, 0, MOST_UNITS);
            System.arraycopy(other.log, 0, log, 0, MOST_LOGGED * LOG_PARTS);
            logged = other.logged;
        }

        private int propertyOf(int unit, int what) {
            return setup.kind[unit] == SERVICE ? setup.properties[unit * PROPERTIES + what] : 0;
        }

        /** The units in the states of a set, in which bit k stands for the state k. */
        private int unitsIn(int states) {
            int units = 0;
            for (int unit = 0; unit < setup.count; unit++) {
                if ((states >> state[unit] & 1) != 0) {
                    units |= 1 << unit;
                }
            }
            return units;
        }

        private boolean isQuiet() {
            return (jobs.starts | jobs.stops) == 0
                && unitsIn(1 << ACTIVATING | 1 << DEACTIVATING | 1 << AWAITING) == 0;
        }

        private void enter(int unit, int newState) {
            if (state[unit] == newState) {
                return;
            }
            if (state[unit] == ACTIVE) {
                turnedAway[unit] += queue[unit];
                queue[unit] = 0;
            }
            state[unit] = newState;
            changed[unit] = now;
            int place = logged % MOST_LOGGED * LOG_PARTS;
            log[place] = now;
            log[place + 1] = unit;
            log[place + 2] = newState;
            // all that counts is the place in the ring and whether it is full, so the number stays small
            logged = logged == 2 * MOST_LOGGED - 1 ? MOST_LOGGED : logged + 1;
        }

        private int keptChanges() {
            return Math.min(logged, MOST_LOGGED);
        }

        private int partOfChange(int index, int part) {
            if (index < 0 || index >= keptChanges()) {
                return NONE;
            }
            int first = logged < MOST_LOGGED ? 0 : logged;
            return log[(first + index) % MOST_LOGGED * LOG_PARTS + part];
        }

        // ---- transactions

        /** Builds a transaction and merges it; answers the number of its jobs, or why it fails. */
        private int order(int unit, int type, boolean replace) {
            int failure = transaction.build(this, unit, type);
            if (failure != 0) {
                return failure;
            }
            int clashes = transaction.starts & jobs.stops | transaction.stops & jobs.starts;
            if (clashes != 0 && !replace) {
                return BUSY;
            }
            int number = Integer.bitCount(transaction.starts | transaction.stops);
            merge();
            return number;
        }

        private void merge() {
            for (int unit = 0; unit < setup.count; unit++) {
                int type = transaction.typeOf(unit);
                int old = jobs.typeOf(unit);
                if (type == NO_JOB) {
                    continue;
                }
                if (old == NO_JOB) {
                    jobs.put(unit, type);
                } else if (old == STOP && type != STOP) {
                    jobs.end(unit, CANCELLED);
                    jobs.put(unit, type);
                } else if (old != STOP && type == STOP) {
                    failJob(unit, CANCELLED, 0);
                    jobs.put(unit, type);
                } else if (old == START && type == RESTART) {
                    jobs.put(unit, type);
                }
            }
        }

        /**
         * Ends a job to start or restart badly, and with it all waiting ones of units that need
         * this unit, and so on. Each level ends a job, so there are at most as many as units.
         */
        private void failJob(int unit, int outcome, int depth) {
            jobs.end(unit, outcome);
            if (outcome == BY_DEPENDENCIES && state[unit] == AWAITING) {
                enter(unit, FAILED);
            }
            if (depth >= MOST_UNITS) {
                return;
            }
            for (int other = 0; other < setup.count; other++) {
                boolean waits = (jobs.starts & ~jobs.running & 1 << other) != 0;
                if (waits && (setup.needs[other] >> unit & 1) != 0) {
                    failJob(other, BY_DEPENDENCIES, depth + 1);
                }
            }
        }

        private void cancelJob(int unit) {
            int type = jobs.typeOf(unit);
            if (type == STOP) {
                jobs.end(unit, CANCELLED);
            } else if (type != NO_JOB) {
                failJob(unit, CANCELLED, 0);
            }
        }

        /** Cancels a job because the caller wants it. */
        private void withdraw(int unit) {
            if (jobs.typeOf(unit) != STOP && state[unit] == AWAITING) {
                enter(unit, FAILED);
            }
            cancelJob(unit);
        }

        // ---- running jobs

        private void runJobs() {
            // each step brings a job nearer to its end, and none takes more than four
            for (int round = 0; round <= 4 * MOST_UNITS; round++) {
                boolean happened = false;
                for (int unit = 0; unit < setup.count; unit++) {
                    int type = jobs.typeOf(unit);
                    if (!jobs.isWaiting(unit) || setup.preceding(unit, jobs.starts, jobs.stops) != 0
                        || type == START && state[unit] == DEACTIVATING) {
                        continue;
                    }
                    happened = true;
                    if (type == START) {
                        runStart(unit);
                    } else if (type == STOP) {
                        runStop(unit);
                    } else {
                        runRestart(unit);
                    }
                }
                if (!happened) {
                    return;
                }
            }
        }

        private void runStop(int unit) {
            switch (state[unit]) {
                case INACTIVE:
                case FAILED:
                    jobs.end(unit, DONE);
                    break;
                case AWAITING:
                    enter(unit, INACTIVE);
                    jobs.end(unit, DONE);
                    break;
                default:
                    goDown(unit);
                    break;
            }
        }

        private void runRestart(int unit) {
            switch (state[unit]) {
                case INACTIVE:
                case FAILED:
                case AWAITING:
                    jobs.put(unit, START);
                    break;
                default:
                    goDown(unit);
                    break;
            }
        }

        /** Begins to stop, unless the unit does so already; its job is running then. */
        private void goDown(int unit) {
            jobs.running |= 1 << unit;
            if (state[unit] == DEACTIVATING) {
                return;
            }
            enter(unit, DEACTIVATING);
            if (propertyOf(unit, STOPPING) == 0) {
                endStopping(unit);
            }
        }

        private void endStopping(int unit) {
            enter(unit, INACTIVE);
            result[unit] = SUCCESS;
            jobs.settle(unit);
        }

        private void runStart(int unit) {
            if (state[unit] == ACTIVE) {
                jobs.end(unit, DONE);
            } else if (state[unit] == ACTIVATING) {
                jobs.running |= 1 << unit;
            } else if (!hasWhatItNeeds(unit)) {
                failJob(unit, BY_DEPENDENCIES, 0);
            } else if (setup.kind[unit] == SERVICE && beginsInInterval(unit) >= propertyOf(unit, BURST)) {
                failByLimit(unit);
            } else {
                jobs.running |= 1 << unit;
                beginStart(unit);
            }
        }

        private boolean hasWhatItNeeds(int unit) {
            int active = unitsIn(1 << ACTIVE);
            int coming = unitsIn(1 << ACTIVATING) | jobs.starts;
            int enough = active | coming & ~setup.relations[AFTER][unit];
            return (setup.needs[unit] & ~enough) == 0;
        }

        private int beginsInInterval(int unit) {
            int number = 0;
            int first = now - propertyOf(unit, INTERVAL);
            for (int kept = 0; kept < KEPT_BEGINS && kept < activations[unit]; kept++) {
                if (beginTimes[unit * KEPT_BEGINS + kept] > first) {
                    number++;
                }
            }
            return number;
        }

        private void failByLimit(int unit) {
            failJob(unit, BY_LIMIT, 0);
            enter(unit, FAILED);
            result[unit] = LIMIT_HIT;
            for (int socket = 0; socket < setup.count; socket++) {
                if (setup.service[socket] == unit && state[socket] == ACTIVE) {
                    enter(socket, FAILED);
                    result[socket] = LIMIT_HIT;
                    cancelJob(socket);
                }
            }
        }

        private void beginStart(int unit) {
            enter(unit, ACTIVATING);
            beginTimes[unit * KEPT_BEGINS + Math.floorMod(activations[unit], KEPT_BEGINS)] = now;
            activations[unit]++;
            beginsInAll[unit]++;
            if (propertyOf(unit, STARTUP) == 0) {
                endActivation(unit);
            }
        }

        private void endActivation(int unit) {
            boolean hasStart = jobs.typeOf(unit) == START;
            if (activations[unit] <= propertyOf(unit, FAILS)) {
                if (hasStart) {
                    failJob(unit, JOB_FAILED, 0);
                }
                exitWith(unit, 1);
                return;
            }
            enter(unit, ACTIVE);
            lastUse[unit] = now;
            for (int socket = 0; socket < setup.count; socket++) {
                if (setup.service[socket] == unit) {
                    served[socket] += queue[socket];
                    queue[socket] = 0;
                }
            }
            if (hasStart) {
                jobs.end(unit, DONE);
            }
        }

        /** An exit, but for what it means for the units that are bound to this one. */
        private void exitWith(int unit, int newCode) {
            result[unit] = newCode == 0 ? SUCCESS : BAD_EXIT;
            code[unit] = newCode;
            int policy = propertyOf(unit, POLICY);
            boolean again = policy == ALWAYS || policy == ON_FAILURE && newCode != 0;
            boolean settled = jobs.settle(unit);
            if (again && !settled) {
                enter(unit, AWAITING);
            } else {
                enter(unit, newCode == 0 ? INACTIVE : FAILED);
            }
        }

        private void stopBoundTo(int unit) {
            for (int other = 0; other < setup.count; other++) {
                boolean bound = (setup.relations[BINDS][other] >> unit & 1) != 0;
                if (bound && (state[other] == ACTIVATING || state[other] == ACTIVE)) {
                    order(other, STOP, true);
                }
            }
        }

        // ---- time and events

        /** Lets the time pass; between the times at which something is due, nothing can happen. */
        private void passTo(int target) {
            for (int tick = 0; tick < HORIZON && now < target; tick++) {
                now = Math.min(target, nextDue());
                for (int unit = 0; unit < setup.count; unit++) {
                    if (dueOf(unit) == now) {
                        happen(unit);
                    }
                }
                runJobs();
            }
        }

        /** The next time after now at which something is due. */
        private int nextDue() {
            int next = NO_TIME;
            for (int unit = 0; unit < setup.count; unit++) {
                int due = dueOf(unit);
                if (due > now && due < next) {
                    next = due;
                }
            }
            return next;
        }

        /** When something is due by the state of the unit, which may be over; or NONE. */
        private int dueOf(int unit) {
            if (setup.kind[unit] != SERVICE) {
                return NONE;
            }
            int first = unit * PROPERTIES;
            switch (state[unit]) {
                case ACTIVATING:
                    return changed[unit] + setup.properties[first + STARTUP];
                case DEACTIVATING:
                    return changed[unit] + setup.properties[first + STOPPING];
                case AWAITING:
                    return changed[unit] + setup.properties[first + DELAY];
                case ACTIVE:
                    int run = setup.properties[first + RUN];
                    int idle = setup.properties[first + IDLE];
                    int exit = run == 0 ? NONE : changed[unit] + run;
                    int going = idle == 0 ? NONE : lastUse[unit] + idle;
                    return exit == NONE || going != NONE && going < exit ? going : exit;
                default:
                    return NONE;
            }
        }

        private void happen(int unit) {
            switch (state[unit]) {
                case ACTIVATING:
                    endActivation(unit);
                    break;
                case DEACTIVATING:
                    endStopping(unit);
                    break;
                case ACTIVE:
                    int run = propertyOf(unit, RUN);
                    if (run != 0 && changed[unit] + run == now) {
                        exitWith(unit, propertyOf(unit, EXIT));
                    } else {
                        goIdle(unit);
                    }
                    stopBoundTo(unit);
                    break;
                default:
                    restartByPolicy(unit);
                    break;
            }
        }

        private void goIdle(int unit) {
            result[unit] = SUCCESS;
            jobs.settle(unit);
            enter(unit, INACTIVE);
        }

        private void restartByPolicy(int unit) {
            if (jobs.typeOf(unit) == NO_JOB) {
                jobs.put(unit, START);
                policyStarts[unit]++;
            }
        }

        /** Lets connections arrive at an active socket; answers how many are accepted or queued. */
        private int letArrive(int socket, int number) {
            int service = setup.service[socket];
            if (service < 0 || service >= setup.count) {
                return 0;
            }
            int taken = 0;
            for (int arrived = 0; arrived < number; arrived++) {
                if (state[service] == ACTIVE) {
                    served[socket]++;
                    lastUse[service] = now;
                    taken++;
                } else if (queue[socket] >= setup.backlog[socket]) {
                    turnedAway[socket]++;
                } else {
                    queue[socket]++;
                    taken++;
                    startForConnection(service);
                }
            }
            return taken;
        }

        private void startForConnection(int service) {
            boolean isDown = state[service] == INACTIVE || state[service] == FAILED;
            if (isDown && jobs.typeOf(service) == NO_JOB && (masked >> service & 1) == 0) {
                order(service, START, false);
            }
        }

        private boolean canCrash(int unit) {
            return setup.kind[unit] == SERVICE && (state[unit] == ACTIVATING || state[unit] == ACTIVE);
        }

        /** An exit that comes from outside. */
        private void crash(int unit, int newCode) {
            if (state[unit] == ACTIVE) {
                exitWith(unit, newCode);
                stopBoundTo(unit);
                return;
            }
            if (jobs.typeOf(unit) == START) {
                failJob(unit, JOB_FAILED, 0);
            }
            exitWith(unit, newCode);
        }

        /** Resets a unit, if its state lets it; answers whether it did. */
        private boolean forget(int unit) {
            int old = state[unit];
            if (old == ACTIVATING || old == ACTIVE || old == DEACTIVATING) {
                return false;
            }
            if (old == FAILED) {
                enter(unit, INACTIVE);
            }
            result[unit] = SUCCESS;
            activations[unit] = 0;
            return true;
        }
    }
}
