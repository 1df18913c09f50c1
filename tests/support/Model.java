import java.util.ArrayList;
import java.util.List;
import java.util.TreeMap;
import java.util.TreeSet;

/**
 * The document once more, sentence by sentence and without any thought of speed: what the class
 * answers is compared with what this answers. Time passes tick by tick, jobs are objects, and a
 * transaction is a map from "unit and type" to "is it essential".
 */
public final class Model {

    private static final int START = 1;
    private static final int STOP = 2;
    private static final int RESTART = 3;

    private static final class Job {
        int type;
        boolean running;

        Job(int type) {
            this.type = type;
        }

        boolean starts() {
            return type != STOP;
        }
    }

    private static final class Unit {
        int kind;
        String name;
        int[] properties = {0, 0, 0, 0, 0, 0, 1, 5, 10, 0};
        int service = -1;
        int backlog;
        List<TreeSet<Integer>> relations = new ArrayList<>();

        int state;
        int since;
        int result;
        int code;
        int lastUse;
        int activations;
        List<Integer> beginTimes = new ArrayList<>();
        int begins;
        int restarts;
        int queued;
        int accepted;
        int lost;
        boolean masked;
        int outcome = -1;
        Job job;

        Unit(int kind, String name) {
            this.kind = kind;
            this.name = name;
            for (int relation = 0; relation < 6; relation++) {
                relations.add(new TreeSet<>());
            }
        }

        Unit copy() {
            Unit copy = new Unit(kind, name);
            copy.properties = properties.clone();
            copy.service = service;
            copy.backlog = backlog;
            for (int relation = 0; relation < 6; relation++) {
                copy.relations.get(relation).addAll(relations.get(relation));
            }
            copy.state = state;
            copy.since = since;
            copy.result = result;
            copy.code = code;
            copy.lastUse = lastUse;
            copy.activations = activations;
            copy.beginTimes.addAll(beginTimes);
            copy.begins = begins;
            copy.restarts = restarts;
            copy.queued = queued;
            copy.accepted = accepted;
            copy.lost = lost;
            copy.masked = masked;
            copy.outcome = outcome;
            if (job != null) {
                copy.job = new Job(job.type);
                copy.job.running = job.running;
            }
            return copy;
        }
    }

    private static final class TextError extends Exception {
        private static final long serialVersionUID = 1;
        final int number;
        final int position;

        TextError(int number, int position) {
            this.number = number;
            this.position = position;
        }
    }

    private static final class Failure extends Exception {
        private static final long serialVersionUID = 1;
        final int code;

        Failure(int code) {
            this.code = code;
        }
    }

    private final StringBuilder buffer = new StringBuilder();
    private int latestError;
    private List<Unit> units = new ArrayList<>();
    private int now;
    private List<int[]> log = new ArrayList<>();
    private final Model[] snapshots = new Model[2];

    private Model copy() {
        Model copy = new Model();
        copy.take(this);
        return copy;
    }

    private void take(Model other) {
        units = new ArrayList<>();
        for (Unit unit : other.units) {
            units.add(unit.copy());
        }
        now = other.now;
        log = new ArrayList<>(other.log);
    }

    // ---- the text

    private static final class Parser {
        final String text;
        int at;
        final List<Unit> units = new ArrayList<>();

        Parser(String text) {
            this.text = text;
        }

        void skip() {
            while (at < text.length() && text.charAt(at) == ' ') {
                at++;
            }
        }

        String run(char first, char last) {
            int end = at;
            while (end < text.length() && text.charAt(end) >= first && text.charAt(end) <= last) {
                end++;
            }
            return text.substring(at, end);
        }

        String word() throws TextError {
            skip();
            String word = run('a', 'z');
            if (word.isEmpty()) {
                throw new TextError(1, at);
            }
            at += word.length();
            return word;
        }

        int number(int least, int greatest) throws TextError {
            skip();
            String digits = run('0', '9');
            if (digits.isEmpty()) {
                throw new TextError(1, at);
            }
            java.math.BigInteger value = new java.math.BigInteger(digits);
            if (value.compareTo(java.math.BigInteger.valueOf(least)) < 0
                || value.compareTo(java.math.BigInteger.valueOf(greatest)) > 0) {
                throw new TextError(2, at);
            }
            at += digits.length();
            return value.intValue();
        }

        int unitCalled(String name) {
            for (int unit = 0; unit < units.size(); unit++) {
                if (units.get(unit).name.equals(name)) {
                    return unit;
                }
            }
            return -1;
        }

        boolean oneOfTheThree(String word) {
            return List.of("service", "socket", "target").contains(word);
        }

        void all() throws TextError {
            statement();
            while (true) {
                skip();
                if (at == text.length()) {
                    return;
                }
                if (text.charAt(at) != ';') {
                    throw new TextError(1, at);
                }
                at++;
                statement();
            }
        }

        void statement() throws TextError {
            String first = word();
            int start = at - first.length();
            if (!oneOfTheThree(first)) {
                int unit = unitCalled(first);
                if (unit < 0) {
                    throw new TextError(1, start);
                }
                relation(unit);
                return;
            }
            if (units.size() == 16) {
                throw new TextError(4, start);
            }
            String name = word();
            if (name.length() > 8 || oneOfTheThree(name) || unitCalled(name) >= 0) {
                throw new TextError(3, at - name.length());
            }
            Unit unit = new Unit(List.of("service", "socket", "target").indexOf(first), name);
            units.add(unit);
            if (unit.kind == 0) {
                properties(unit);
            } else if (unit.kind == 1) {
                String service = word();
                unit.service = unitCalled(service);
                if (unit.service < 0 || units.get(unit.service).kind != 0) {
                    throw new TextError(3, at - service.length());
                }
                unit.backlog = number(1, 50);
            }
        }

        void properties(Unit unit) throws TextError {
            while (true) {
                skip();
                String word = run('a', 'z');
                if (word.isEmpty()) {
                    return;
                }
                int start = at;
                at += word.length();
                switch (word) {
                    case "startup" -> unit.properties[0] = number(0, 100);
                    case "stopping" -> unit.properties[1] = number(0, 100);
                    case "run" -> unit.properties[2] = number(0, 1000);
                    case "exit" -> unit.properties[3] = number(0, 255);
                    case "fails" -> unit.properties[4] = number(0, 9);
                    case "restart" -> {
                        String policy = word();
                        unit.properties[5] = List.of("never", "failure", "always").indexOf(policy);
                        if (unit.properties[5] < 0) {
                            throw new TextError(1, at - policy.length());
                        }
                    }
                    case "delay" -> unit.properties[6] = number(1, 100);
                    case "limit" -> {
                        unit.properties[7] = number(1, 9);
                        unit.properties[8] = number(1, 1000);
                    }
                    case "idle" -> unit.properties[9] = number(0, 1000);
                    default -> throw new TextError(1, start);
                }
            }
        }

        void relation(int unit) throws TextError {
            String relation = word();
            int which = List.of("requires", "wants", "binds", "partof", "conflicts", "after", "before").indexOf(relation);
            if (which < 0) {
                throw new TextError(1, at - relation.length());
            }
            String name = word();
            int other = unitCalled(name);
            if (other < 0 || other == unit) {
                throw new TextError(3, at - name.length());
            }
            if (which == 6) {
                units.get(other).relations.get(5).add(unit);
            } else {
                units.get(unit).relations.get(which).add(other);
            }
        }
    }

    public int append(long bytes) {
        StringBuilder more = new StringBuilder();
        for (int index = 7; index >= 0; index--) {
            char sign = (char) (bytes >> 8 * index & 255);
            if (sign != 0) {
                more.append(sign);
            }
        }
        if (buffer.length() + more.length() > 800) {
            return -2;
        }
        buffer.append(more);
        return buffer.length();
    }

    public int load() {
        Parser parser = new Parser(buffer.toString());
        buffer.setLength(0);
        try {
            parser.all();
        } catch (TextError error) {
            latestError = error.number;
            return -100 - error.position;
        }
        latestError = 0;
        units = parser.units;
        now = 0;
        log = new ArrayList<>();
        return units.size();
    }

    public int loadError() {
        return latestError;
    }

    public int find() {
        String name = buffer.toString();
        buffer.setLength(0);
        for (int unit = 0; unit < units.size(); unit++) {
            if (units.get(unit).name.equals(name)) {
                return unit;
            }
        }
        return -1;
    }

    private Unit at(int unit) {
        if (unit < 0 || unit >= units.size()) {
            throw new IndexOutOfBoundsException();
        }
        return units.get(unit);
    }

    private static void range(int value, int least, int greatest) {
        if (value < least || value > greatest) {
            throw new IllegalArgumentException();
        }
    }

    private static int set(Iterable<Integer> members) {
        int set = 0;
        for (int member : members) {
            set |= 1 << member;
        }
        return set;
    }

    public int unitCount() {
        return units.size();
    }

    public int kindOf(int unit) {
        return at(unit).kind;
    }

    public int nameLetter(int unit, int index) {
        String name = at(unit).name;
        return index >= 0 && index < name.length() ? name.charAt(index) : -1;
    }

    public int property(int unit, int what) {
        at(unit);
        range(what, 0, 9);
        return at(unit).kind == 0 ? at(unit).properties[what] : -1;
    }

    public int related(int unit, int relation) {
        at(unit);
        range(relation, 0, 5);
        return set(at(unit).relations.get(relation));
    }

    public int serviceOf(int unit) {
        return at(unit).service;
    }

    // ---- what the relations mean

    private boolean needs(int one, int other) {
        return at(one).relations.get(0).contains(other) || at(one).relations.get(2).contains(other);
    }

    private boolean follows(int one, int other) {
        return needs(one, other) || at(one).relations.get(3).contains(other);
    }

    private boolean opponents(int one, int other) {
        return at(one).relations.get(4).contains(other) || at(other).relations.get(4).contains(one);
    }

    private boolean after(int one, int other) {
        return at(one).relations.get(5).contains(other);
    }

    // ---- transactions: a job is the number unit * 4 + type

    private boolean precedes(int firstUnit, int firstType, int secondUnit, int secondType) {
        if (firstType != STOP && secondType != STOP) {
            return after(secondUnit, firstUnit);
        }
        if (firstType == STOP && secondType == STOP) {
            return after(firstUnit, secondUnit);
        }
        boolean ordered = after(firstUnit, secondUnit) || after(secondUnit, firstUnit);
        return ordered && firstType == STOP;
    }

    private boolean precedes(int first, int second) {
        return precedes(first / 4, first % 4, second / 4, second % 4);
    }

    private TreeMap<Integer, Boolean> build(int unit, int type) throws Failure {
        TreeSet<Integer> banned = new TreeSet<>();
        while (true) {
            TreeMap<Integer, Boolean> jobs = collect(unit, type, banned);
            Integer ban = conflictBan(jobs);
            if (ban == null) {
                removeNeedless(jobs);
                ban = cycleBan(jobs);
            }
            if (ban == null) {
                return jobs;
            }
            if (!banned.add(ban)) {
                throw new IllegalStateException("banned twice");
            }
        }
    }

    private TreeMap<Integer, Boolean> collect(int unit, int type, TreeSet<Integer> banned) throws Failure {
        TreeMap<Integer, Boolean> jobs = new TreeMap<>();
        add(jobs, unit, type, true, banned);
        while (true) {
            TreeMap<Integer, Boolean> before = new TreeMap<>(jobs);
            for (int job : before.keySet()) {
                if (jobs.containsKey(job)) {
                    pull(jobs, job, banned);
                }
            }
            if (jobs.equals(before)) {
                return jobs;
            }
        }
    }

    private void pull(TreeMap<Integer, Boolean> jobs, int job, TreeSet<Integer> banned) throws Failure {
        int unit = job / 4;
        int type = job % 4;
        boolean essential = jobs.get(job);
        for (int other = 0; other < units.size(); other++) {
            if (type != STOP && needs(unit, other)) {
                add(jobs, other, START, essential, banned);
            }
            if (type != STOP && at(unit).relations.get(1).contains(other)) {
                add(jobs, other, START, false, banned);
            }
            if (type != STOP && opponents(unit, other)) {
                add(jobs, other, STOP, essential, banned);
            }
            if (type == STOP && follows(other, unit)) {
                add(jobs, other, STOP, essential, banned);
            }
            if (type == RESTART && follows(other, unit) && List.of(1, 2, 3, 5).contains(at(other).state)) {
                add(jobs, other, RESTART, essential, banned);
            }
        }
    }

    private void add(TreeMap<Integer, Boolean> jobs, int unit, int type, boolean essential, TreeSet<Integer> banned)
        throws Failure {
        int job = unit * 4 + type;
        if (type != STOP && at(unit).masked) {
            if (essential) {
                throw new Failure(-6);
            }
            return;
        }
        if (banned.contains(job) && !essential) {
            return;
        }
        if (type == START && jobs.containsKey(unit * 4 + RESTART)) {
            job = unit * 4 + RESTART;
        }
        boolean wasEssential = jobs.getOrDefault(job, false);
        if (type == RESTART && jobs.containsKey(unit * 4 + START)) {
            wasEssential |= jobs.remove(unit * 4 + START);
        }
        jobs.put(job, wasEssential || essential);
    }

    private Integer conflictBan(TreeMap<Integer, Boolean> jobs) throws Failure {
        for (int unit = 0; unit < units.size(); unit++) {
            Integer stop = jobs.containsKey(unit * 4 + STOP) ? (Integer) (unit * 4 + STOP) : null;
            Integer start = jobs.containsKey(unit * 4 + START) ? (Integer) (unit * 4 + START)
                : jobs.containsKey(unit * 4 + RESTART) ? (Integer) (unit * 4 + RESTART) : null;
            if (stop != null && start != null) {
                if (jobs.get(stop) && jobs.get(start)) {
                    throw new Failure(-3);
                }
                return jobs.get(start) ? stop : start;
            }
        }
        return null;
    }

    private void removeNeedless(TreeMap<Integer, Boolean> jobs) {
        for (int unit = 0; unit < units.size(); unit++) {
            if (at(unit).job == null && at(unit).state == 2) {
                jobs.remove(unit * 4 + START);
            }
            if (at(unit).job == null && (at(unit).state == 0 || at(unit).state == 4)) {
                jobs.remove(unit * 4 + STOP);
            }
        }
    }

    private Integer cycleBan(TreeMap<Integer, Boolean> jobs) throws Failure {
        Integer ban = null;
        boolean cycle = false;
        for (int job : jobs.keySet()) {
            TreeSet<Integer> met = new TreeSet<>();
            follow(jobs, job, met);
            if (met.contains(job)) {
                cycle = true;
                if (!jobs.get(job)) {
                    ban = job;
                }
            }
        }
        if (cycle && ban == null) {
            throw new Failure(-4);
        }
        return ban;
    }

    private void follow(TreeMap<Integer, Boolean> jobs, int job, TreeSet<Integer> met) {
        for (int next : jobs.keySet()) {
            if (precedes(job, next) && met.add(next)) {
                follow(jobs, next, met);
            }
        }
    }

    private int order(int unit, int type, boolean replace) {
        TreeMap<Integer, Boolean> jobs;
        try {
            jobs = build(unit, type);
        } catch (Failure failure) {
            return failure.code;
        }
        for (int job : jobs.keySet()) {
            Job old = at(job / 4).job;
            if (old != null && (old.type == STOP) != (job % 4 == STOP) && !replace) {
                return -5;
            }
        }
        for (int job : jobs.keySet()) {
            int jobType = job % 4;
            Job old = at(job / 4).job;
            if (old == null) {
                at(job / 4).job = new Job(jobType);
            } else if ((old.type == STOP) != (jobType == STOP)) {
                cancelled(job / 4);
                at(job / 4).job = new Job(jobType);
            } else if (old.type == START && jobType == RESTART) {
                at(job / 4).job = new Job(RESTART);
            }
        }
        return jobs.size();
    }

    private void cancelled(int unit) {
        boolean started = at(unit).job.starts();
        end(unit, 4);
        if (started) {
            failDependents(unit);
        }
    }

    private void end(int unit, int outcome) {
        at(unit).job = null;
        at(unit).outcome = outcome;
    }

    private void failDependents(int unit) {
        for (int other = 0; other < units.size(); other++) {
            Job job = at(other).job;
            if (job != null && !job.running && job.starts() && needs(other, unit)) {
                failByDependencies(other);
            }
        }
    }

    private void failByDependencies(int unit) {
        end(unit, 2);
        if (at(unit).state == 5) {
            change(unit, 4);
        }
        failDependents(unit);
    }

    private void change(int unit, int state) {
        Unit changing = at(unit);
        if (changing.state == state) {
            return;
        }
        if (changing.state == 2) {
            changing.lost += changing.queued;
            changing.queued = 0;
        }
        changing.state = state;
        changing.since = now;
        log.add(new int[] {now, unit, state});
        if (log.size() > 60) {
            log.remove(0);
        }
    }

    // ---- running jobs

    private void runAll() {
        boolean happened = true;
        while (happened) {
            happened = false;
            for (int unit = 0; unit < units.size(); unit++) {
                if (mayRun(unit)) {
                    happened = true;
                    run(unit);
                }
            }
        }
    }

    private boolean mayRun(int unit) {
        Job job = at(unit).job;
        if (job == null || job.running || preceding(unit) != 0) {
            return false;
        }
        return job.type != START || at(unit).state != 3;
    }

    private int preceding(int unit) {
        int set = 0;
        for (int other = 0; other < units.size(); other++) {
            Job job = at(other).job;
            if (other != unit && job != null && precedes(other, job.type, unit, at(unit).job.type)) {
                set |= 1 << other;
            }
        }
        return set;
    }

    private void run(int unit) {
        Unit one = at(unit);
        if (one.job.type == STOP) {
            if (one.state == 0 || one.state == 4) {
                end(unit, 0);
            } else if (one.state == 5) {
                change(unit, 0);
                end(unit, 0);
            } else {
                one.job.running = true;
                if (one.state != 3) {
                    beginStop(unit);
                }
            }
        } else if (one.job.type == RESTART) {
            if (one.state == 0 || one.state == 4 || one.state == 5) {
                one.job = new Job(START);
            } else {
                one.job.running = true;
                if (one.state != 3) {
                    beginStop(unit);
                }
            }
        } else {
            runStart(unit);
        }
    }

    private void runStart(int unit) {
        Unit one = at(unit);
        if (one.state == 2) {
            end(unit, 0);
            return;
        }
        if (one.state == 1) {
            one.job.running = true;
            return;
        }
        for (int other = 0; other < units.size(); other++) {
            if (needs(unit, other) && !fulfilled(unit, other)) {
                failByDependencies(unit);
                return;
            }
        }
        if (one.kind == 0 && recent(one) >= one.properties[7]) {
            end(unit, 3);
            failDependents(unit);
            change(unit, 4);
            one.result = 3;
            for (int socket = 0; socket < units.size(); socket++) {
                if (at(socket).service == unit && at(socket).state == 2) {
                    change(socket, 4);
                    at(socket).result = 3;
                    if (at(socket).job != null) {
                        cancelled(socket);
                    }
                }
            }
            return;
        }
        one.job.running = true;
        change(unit, 1);
        one.begins++;
        one.activations++;
        one.beginTimes.add(now);
        if (one.kind != 0 || one.properties[0] == 0) {
            endActivation(unit);
        }
    }

    private boolean fulfilled(int unit, int needed) {
        Unit other = at(needed);
        if (other.state == 2) {
            return true;
        }
        if (after(unit, needed)) {
            return false;
        }
        return other.state == 1 || other.job != null && other.job.starts();
    }

    private int recent(Unit one) {
        int recent = 0;
        for (int time : one.beginTimes) {
            if (time > now - one.properties[8]) {
                recent++;
            }
        }
        return recent;
    }

    private void endActivation(int unit) {
        Unit one = at(unit);
        boolean hasStart = one.job != null && one.job.type == START;
        if (one.kind == 0 && one.activations <= one.properties[4]) {
            if (hasStart) {
                end(unit, 1);
                failDependents(unit);
            }
            exit(unit, 1);
            return;
        }
        change(unit, 2);
        one.lastUse = now;
        for (Unit socket : units) {
            if (socket.service == unit) {
                socket.accepted += socket.queued;
                socket.queued = 0;
            }
        }
        if (hasStart) {
            end(unit, 0);
        }
    }

    private void beginStop(int unit) {
        change(unit, 3);
        if (at(unit).kind != 0 || at(unit).properties[1] == 0) {
            endStop(unit);
        }
    }

    private void endStop(int unit) {
        change(unit, 0);
        at(unit).result = 0;
        settle(unit);
    }

    private boolean settle(int unit) {
        Job job = at(unit).job;
        if (job == null || job.type == START) {
            return false;
        }
        if (job.type == STOP) {
            end(unit, 0);
        } else {
            at(unit).job = new Job(START);
        }
        return true;
    }

    private void exit(int unit, int code) {
        Unit one = at(unit);
        boolean wasActive = one.state == 2;
        one.result = code == 0 ? 0 : 1;
        one.code = code;
        boolean again = one.properties[5] == 2 || one.properties[5] == 1 && code != 0;
        if (settle(unit)) {
            again = false;
        }
        change(unit, again ? 5 : code == 0 ? 0 : 4);
        if (wasActive) {
            stopBound(unit);
        }
    }

    private void stopBound(int unit) {
        for (int other = 0; other < units.size(); other++) {
            if (at(other).relations.get(2).contains(unit) && (at(other).state == 1 || at(other).state == 2)) {
                order(other, STOP, true);
            }
        }
    }

    // ---- the calls that change jobs and units

    private int called(int answer) {
        if (answer >= 0) {
            runAll();
        }
        return answer;
    }

    public int start(int unit, boolean replace) {
        at(unit);
        return called(order(unit, START, replace));
    }

    public int stop(int unit, boolean replace) {
        at(unit);
        return called(order(unit, STOP, replace));
    }

    public int restart(int unit, boolean replace) {
        at(unit);
        return called(order(unit, RESTART, replace));
    }

    public int plan(int unit, int type, int which) {
        at(unit);
        range(type, 1, 3);
        range(which, 0, 4);
        try {
            int set = 0;
            TreeMap<Integer, Boolean> jobs = build(unit, type);
            for (int job : jobs.keySet()) {
                if (which == 0 || which == job % 4 || which == 4 && jobs.get(job)) {
                    set |= 1 << job / 4;
                }
            }
            return set;
        } catch (Failure failure) {
            return failure.code;
        }
    }

    private int longest(TreeSet<Integer> jobs, int from, boolean startup) {
        int longest = 0;
        for (int next : jobs) {
            if (precedes(from, next)) {
                longest = Math.max(longest, longest(jobs, next, startup));
            }
        }
        Unit one = at(from / 4);
        return longest + (!startup ? 1 : one.kind == 0 ? one.properties[0] : 0);
    }

    public int planDepth(int unit, int type) {
        at(unit);
        range(type, 1, 3);
        try {
            TreeSet<Integer> jobs = new TreeSet<>(build(unit, type).keySet());
            int depth = 0;
            for (int job : jobs) {
                depth = Math.max(depth, longest(jobs, job, false));
            }
            return depth;
        } catch (Failure failure) {
            return failure.code;
        }
    }

    public int criticalTime(int unit) {
        at(unit);
        try {
            TreeSet<Integer> jobs = new TreeSet<>(build(unit, START).keySet());
            jobs.removeIf(job -> job % 4 == STOP);
            int time = 0;
            for (int job : jobs) {
                time = Math.max(time, longest(jobs, job, true));
            }
            return time;
        } catch (Failure failure) {
            return failure.code;
        }
    }

    public int cancel(int unit) {
        Unit one = at(unit);
        if (one.job == null || one.job.running) {
            return -7;
        }
        boolean starts = one.job.starts();
        end(unit, 4);
        if (starts) {
            if (one.state == 5) {
                change(unit, 4);
            }
            failDependents(unit);
        }
        runAll();
        return queueLength();
    }

    public int jobOf(int unit) {
        return at(unit).job == null ? 0 : at(unit).job.type;
    }

    public boolean isRunning(int unit) {
        return at(unit).job != null && at(unit).job.running;
    }

    public int precedingJobs(int unit) {
        return at(unit).job == null ? 0 : preceding(unit);
    }

    public int queueLength() {
        int length = 0;
        for (Unit unit : units) {
            length += unit.job == null ? 0 : 1;
        }
        return length;
    }

    public int outcomeOf(int unit) {
        return at(unit).outcome;
    }

    // ---- time and events

    private void tick() {
        now++;
        for (int unit = 0; unit < units.size(); unit++) {
            Unit one = at(unit);
            if (one.kind != 0) {
                continue;
            }
            if (one.state == 1 && one.since + one.properties[0] == now) {
                endActivation(unit);
            } else if (one.state == 3 && one.since + one.properties[1] == now) {
                endStop(unit);
            } else if (one.state == 2 && one.properties[2] != 0 && one.since + one.properties[2] == now) {
                exit(unit, one.properties[3]);
            } else if (one.state == 2 && one.properties[9] != 0 && one.lastUse + one.properties[9] == now) {
                one.result = 0;
                settle(unit);
                change(unit, 0);
                stopBound(unit);
            } else if (one.state == 5 && one.since + one.properties[6] == now && one.job == null) {
                one.job = new Job(START);
                one.restarts++;
            }
        }
        runAll();
    }

    public int advance(int ticks) {
        range(ticks, 1, 1000);
        if (now + ticks > 1000000) {
            return -2;
        }
        for (int tick = 0; tick < ticks; tick++) {
            tick();
        }
        return now;
    }

    public int time() {
        return now;
    }

    public int connect(int unit, int count) {
        Unit socket = at(unit);
        range(count, 1, 100);
        if (socket.kind != 1 || socket.state != 2) {
            return -7;
        }
        Unit service = at(socket.service);
        int taken = 0;
        for (int one = 0; one < count; one++) {
            if (service.state == 2) {
                socket.accepted++;
                service.lastUse = now;
                taken++;
            } else if (socket.queued == socket.backlog) {
                socket.lost++;
            } else {
                socket.queued++;
                taken++;
                if (service.job == null && !service.masked && (service.state == 0 || service.state == 4)) {
                    order(socket.service, START, false);
                }
            }
        }
        runAll();
        return taken;
    }

    private void crash(int unit, int code) {
        Unit one = at(unit);
        if (one.state == 1 && one.job != null && one.job.type == START) {
            end(unit, 1);
            failDependents(unit);
        }
        exit(unit, code);
        runAll();
    }

    public int kill(int unit, int code) {
        Unit one = at(unit);
        range(code, 0, 255);
        if (one.kind != 0 || one.state != 1 && one.state != 2) {
            return -7;
        }
        crash(unit, code);
        return one.state;
    }

    public boolean reset(int unit) {
        Unit one = at(unit);
        if (one.state == 1 || one.state == 2 || one.state == 3) {
            return false;
        }
        if (one.state == 4) {
            change(unit, 0);
        }
        one.result = 0;
        one.activations = 0;
        one.beginTimes.clear();
        runAll();
        return true;
    }

    public boolean setMasked(int unit, boolean masked) {
        boolean before = at(unit).masked;
        at(unit).masked = masked;
        return before;
    }

    // ---- states

    public int stateOf(int unit) {
        return at(unit).state;
    }

    public int inState(int state) {
        range(state, 0, 5);
        int set = 0;
        for (int unit = 0; unit < units.size(); unit++) {
            set |= at(unit).state == state ? 1 << unit : 0;
        }
        return set;
    }

    public int resultOf(int unit) {
        return at(unit).result;
    }

    public int exitCode(int unit) {
        return at(unit).code;
    }

    public int since(int unit) {
        return at(unit).since;
    }

    public int dueAt(int unit) {
        Unit one = at(unit);
        if (one.kind != 0) {
            return -1;
        }
        TreeSet<Integer> times = new TreeSet<>();
        if (one.state == 1) {
            times.add(one.since + one.properties[0]);
        } else if (one.state == 3) {
            times.add(one.since + one.properties[1]);
        } else if (one.state == 5) {
            times.add(one.since + one.properties[6]);
        } else if (one.state == 2) {
            if (one.properties[2] != 0) {
                times.add(one.since + one.properties[2]);
            }
            if (one.properties[9] != 0) {
                times.add(one.lastUse + one.properties[9]);
            }
        }
        times.removeIf(time -> time <= now);
        return times.isEmpty() ? -1 : times.first();
    }

    public int restarts(int unit) {
        return at(unit).restarts;
    }

    public int begins(int unit) {
        return at(unit).begins;
    }

    public int recentBegins(int unit) {
        return at(unit).kind == 0 ? recent(at(unit)) : -1;
    }

    public int queued(int unit) {
        return at(unit).kind == 1 ? at(unit).queued : -1;
    }

    public int accepted(int unit) {
        return at(unit).kind == 1 ? at(unit).accepted : -1;
    }

    public int lost(int unit) {
        return at(unit).kind == 1 ? at(unit).lost : -1;
    }

    public int logSize() {
        return log.size();
    }

    public int logEntry(int index, int what) {
        range(what, 0, 2);
        return index >= 0 && index < log.size() ? log.get(index)[what] : -1;
    }

    // ---- analysis

    private void needed(int unit, TreeSet<Integer> met) {
        for (int other = 0; other < units.size(); other++) {
            if (needs(unit, other) && met.add(other)) {
                needed(other, met);
            }
        }
    }

    public int allNeeded(int unit) {
        at(unit);
        TreeSet<Integer> met = new TreeSet<>();
        needed(unit, met);
        return set(met);
    }

    private void following(int unit, TreeSet<Integer> met) {
        met.add(unit);
        for (int other = 0; other < units.size(); other++) {
            if (follows(other, unit) && !met.contains(other)) {
                following(other, met);
            }
        }
    }

    public int allStopped(int unit) {
        at(unit);
        TreeSet<Integer> met = new TreeSet<>();
        following(unit, met);
        return set(met);
    }

    private void earlier(int unit, TreeSet<Integer> met) {
        for (int other = 0; other < units.size(); other++) {
            if (after(unit, other) && met.add(other)) {
                earlier(other, met);
            }
        }
    }

    public int orderingCircle() {
        TreeSet<Integer> circle = new TreeSet<>();
        for (int unit = 0; unit < units.size(); unit++) {
            TreeSet<Integer> met = new TreeSet<>();
            earlier(unit, met);
            if (met.contains(unit)) {
                circle.add(unit);
            }
        }
        return set(circle);
    }

    public boolean isSound() {
        for (int unit = 0; unit < units.size(); unit++) {
            for (int other = 0; other < units.size(); other++) {
                if (at(unit).state == 2 && needs(unit, other) && at(other).state != 2) {
                    return false;
                }
            }
        }
        return true;
    }

    public int ticksUntilActive(int unit) {
        at(unit);
        Model trial = copy();
        int answer = trial.start(unit, true);
        if (answer < 0) {
            return answer;
        }
        for (int ticks = 0; ticks <= 1000; ticks++) {
            if (trial.at(unit).state == 2) {
                return ticks;
            }
            trial.tick();
        }
        return -1;
    }

    public int ticksUntilQuiet() {
        Model trial = copy();
        for (int ticks = 0; ticks <= 1000; ticks++) {
            if (trial.queueLength() == 0 && (trial.inState(1) | trial.inState(3) | trial.inState(5)) == 0) {
                return ticks;
            }
            trial.tick();
        }
        return -1;
    }

    public int stateAfter(int unit, int ticks) {
        at(unit);
        range(ticks, 0, 1000);
        Model trial = copy();
        for (int tick = 0; tick < ticks; tick++) {
            trial.tick();
        }
        return trial.stateOf(unit);
    }

    public int damageOf(int unit, int ticks) {
        Unit one = at(unit);
        range(ticks, 0, 200);
        if (one.kind != 0 || one.state != 1 && one.state != 2) {
            return 0;
        }
        Model trial = copy();
        trial.crash(unit, 1);
        for (int tick = 0; tick < ticks; tick++) {
            trial.tick();
        }
        return inState(2) & ~trial.inState(2);
    }

    public int weakest() {
        int weakest = -1;
        for (int unit = 0; unit < units.size(); unit++) {
            if (weakest < 0 || Integer.bitCount(damageOf(unit, 0)) > Integer.bitCount(damageOf(weakest, 0))) {
                weakest = unit;
            }
        }
        return weakest;
    }

    public int saveSnapshot(int slot) {
        range(slot, 0, 1);
        snapshots[slot] = copy();
        return now;
    }

    public int restoreSnapshot(int slot) {
        range(slot, 0, 1);
        if (snapshots[slot] == null) {
            return -1;
        }
        take(snapshots[slot]);
        return now;
    }
}
