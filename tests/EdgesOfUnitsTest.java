/** The header, section 1 and promises 1 and 6 to 11: a test for each sentence that names a boundary case. */
public final class EdgesOfUnitsTest {

    private static final int NONE = ServiceManager.NONE;
    private static final Check CHECK = new Check();

    /** Sixteen units: services, sockets and targets by turns, with relations between the first one and the last one. */
    private static ServiceManager sixteen() {
        StringBuilder text = new StringBuilder();
        for (int unit = 0; unit < 16; unit++) {
            char name = (char) ('a' + unit);
            String[] kinds = {"service " + name, "socket " + name + " a 5", "target " + name};
            text.append(unit == 0 ? "" : ";").append(kinds[unit % 3]);
        }
        return Check.made(text + ";a requires p;p wants a;p after a;p conflicts a;p partof a;p binds a");
    }

    // ---- the header and section 1

    /** The header: "An object is used for at most 512 calls": the 512th one is answered as the first one. */
    private static void manyCalls() {
        ServiceManager manager = Check.made("service a limit 1 1");
        int calls = 5;
        for (; calls < 510; calls += 2) {
            manager.start(0, true);
            manager.stop(0, true);
        }
        CHECK.due("begins() as the call 511", manager.begins(0), 1);
        CHECK.due("outcomeOf() as the call 512", manager.outcomeOf(0), 3);
    }

    /** Section 1: "There are at most 16 units, numbered from 0 in the order of the text". */
    private static void sixteenUnits() {
        ServiceManager manager = sixteen();
        for (int unit = 0; unit < 16; unit++) {
            CHECK.due("kindOf(" + unit + ")", manager.kindOf(unit), unit % 3);
            CHECK.due("nameLetter(" + unit + ", 0)", manager.nameLetter(unit, 0), 'a' + unit);
        }
        CHECK.noSuchUnit("kindOf(-1)", manager, () -> manager.kindOf(-1));
        CHECK.noSuchUnit("kindOf(16)", manager, () -> manager.kindOf(16));
    }

    /** Section 1: "A set of units is given as the sum of 2^k over its units k": with none, the first, the last and all. */
    private static void setsOfUnits() {
        ServiceManager manager = Check.made(Check.targets(16, ""));
        CHECK.due("no unit is active", manager.inState(2), 0);
        manager.start(0, false);
        CHECK.due("the first unit is", manager.inState(2), 1);
        manager.start(15, false);
        CHECK.due("the last unit is, too", manager.inState(2), 1 + 32768);
        for (int unit = 1; unit < 15; unit++) {
            manager.start(unit, false);
        }
        CHECK.due("all units are", manager.inState(2), 65535);
    }

    /** Section 1: "Time is counted in ticks, from 0". */
    private static void timeFromZero() {
        ServiceManager manager = Check.made("service a");
        CHECK.due("time() at first", manager.time(), 0);
        manager.start(0, false);
        CHECK.due("the time of the first change", manager.logEntry(0, 0), 0);
        CHECK.due("time() after a call", manager.time(), 0);
        CHECK.due("advance(1)", manager.advance(1), 1);
    }

    /** Section 1: "A unit needs another one if it requires it or is bound to it". */
    private static void needs() {
        String[] words = {"requires", "wants", "binds", "partof", "conflicts", "after", "before"};
        for (int word = 0; word < words.length; word++) {
            ServiceManager manager = Check.made("target a;target b;a " + words[word] + " b");
            CHECK.due("what a needs that " + words[word] + " b", manager.allNeeded(0), word == 0 || word == 2 ? 2 : 0);
            CHECK.due("what b needs", manager.allNeeded(1), 0);
        }
    }

    /** Section 1: "A unit follows another one if it needs it or is part of it". */
    private static void follows() {
        String[] words = {"requires", "wants", "binds", "partof", "conflicts", "after", "before"};
        for (int word = 0; word < words.length; word++) {
            ServiceManager manager = Check.made("target a;target b;a " + words[word] + " b");
            boolean follows = word == 0 || word == 2 || word == 3;
            CHECK.due("what follows b when a " + words[word] + " b", manager.allStopped(1), follows ? 3 : 2);
            CHECK.due("what follows a", manager.allStopped(0), 1);
        }
    }

    /** Section 1: "If one of two units conflicts with the other one, each is an opponent of the other one". */
    private static void opponents() {
        for (String told : new String[] {";a conflicts b", ";b conflicts a", ";a conflicts b;b conflicts a"}) {
            for (int unit = 0; unit < 2; unit++) {
                ServiceManager manager = Check.made("target a;target b" + told);
                manager.start(1 - unit, false);
                CHECK.due("start(" + unit + ") with" + told, manager.start(unit, false), 2);
                CHECK.due("what is active then", manager.inState(2), 1 << unit);
            }
        }
    }

    /** Section 1: "Independently of that, it can be ordered after a unit": a need is no order, and an order no need. */
    private static void orderIsNoNeed() {
        ServiceManager manager = Check.made("service a startup 5;service b;service c;b requires a;c after a");
        CHECK.due("start() of what needs a", manager.start(1, false), 2);
        CHECK.due("it does not wait for a", Check.states(manager), "120");
        CHECK.due("start() of what is ordered after a", manager.start(2, false), 1);
        CHECK.due("it waits for a", Check.states(manager), "120");
    }

    /** Section 1: "A unit has at most one job": a second call leaves one. */
    private static void oneJob() {
        ServiceManager manager = Check.made("service a startup 5 stopping 5");
        manager.start(0, false);
        manager.start(0, false);
        CHECK.due("queueLength() after two starts", manager.queueLength(), 1);
        manager.restart(0, true);
        CHECK.due("queueLength() after a restart", manager.queueLength(), 1);
        manager.stop(0, true);
        CHECK.due("queueLength() after a stop", manager.queueLength(), 1);
        manager.start(0, true);
        CHECK.due("queueLength() after another start", manager.queueLength(), 1);
    }

    // ---- promise 1

    /** Promise 1: "Creates a manager without units, at time 0". */
    private static void withoutUnits() {
        ServiceManager manager = new ServiceManager();
        CHECK.due("unitCount()", manager.unitCount(), 0);
        CHECK.due("time()", manager.time(), 0);
        CHECK.due("queueLength()", manager.queueLength(), 0);
        CHECK.due("logSize()", manager.logSize(), 0);
        CHECK.due("logEntry(0, 0)", manager.logEntry(0, 0), NONE);
        CHECK.due("orderingCircle()", manager.orderingCircle(), 0);
        CHECK.due("isSound()", manager.isSound(), true);
        CHECK.due("ticksUntilQuiet()", manager.ticksUntilQuiet(), 0);
        CHECK.due("weakest()", manager.weakest(), NONE);
        for (int state = 0; state <= 5; state++) {
            CHECK.due("inState(" + state + ")", manager.inState(state), 0);
        }
        CHECK.due("advance(1)", manager.advance(1), 1);
        CHECK.noSuchUnit("stateOf(0)", manager, () -> manager.stateOf(0));
    }

    /** Promise 1: "with an empty input buffer". */
    private static void emptyBuffer() {
        CHECK.due("append(0)", new ServiceManager().append(0), 0);
        CHECK.due("append(1)", new ServiceManager().append(1), 1);
        CHECK.due("load()", new ServiceManager().load(), -100);
        CHECK.due("find()", new ServiceManager().find(), NONE);
    }

    /** Promise 1: "and no snapshots". */
    private static void noSnapshots() {
        ServiceManager manager = new ServiceManager();
        CHECK.refused("restoreSnapshot(0)", manager, () -> manager.restoreSnapshot(0), NONE);
        CHECK.refused("restoreSnapshot(1)", manager, () -> manager.restoreSnapshot(1), NONE);
    }

    /** Promise 1: one object has nothing to do with another one. */
    private static void ownObjects() {
        ServiceManager first = Check.made("service a startup 5");
        ServiceManager second = Check.made("service a startup 5");
        first.start(0, false);
        first.append('x');
        first.saveSnapshot(0);
        first.advance(3);
        CHECK.due("the other object", Check.whole(second), Check.whole(Check.made("service a startup 5")));
        CHECK.due("a snapshot of the other object", second.restoreSnapshot(0), NONE);
    }

    // ---- promises 6 to 11

    /** Promise 6: "Returns 0 to 16". */
    private static void unitCounts() {
        ServiceManager manager = new ServiceManager();
        CHECK.due("unitCount() without units", manager.unitCount(), 0);
        for (int count = 1; count <= 16; count++) {
            Check.reload(manager, Check.targets(count, ""));
            CHECK.due("unitCount() of " + count, manager.unitCount(), count);
        }
        Check.reload(manager, "target a");
        CHECK.due("unitCount() of one again", manager.unitCount(), 1);
    }

    /** Promise 7: "Returns 0 a service, 1 a socket, 2 a target"; "if there is no such unit". */
    private static void kindOf() {
        ServiceManager manager = Check.made("target t;service a;socket s a 5");
        int[] kinds = {2, 0, 1};
        for (int unit = 0; unit < 3; unit++) {
            CHECK.due("kindOf(" + unit + ")", manager.kindOf(unit), kinds[unit]);
        }
        CHECK.noSuchUnit("kindOf(3)", manager, () -> manager.kindOf(3));
    }

    /** Promise 8: "index: the index of the letter, from 0"; "NONE if there is no such index". */
    private static void nameLetter() {
        ServiceManager manager = Check.made("target z;target abcdefgh;target xy");
        int[] wrong = {-1, 8, 9, Integer.MIN_VALUE, Integer.MAX_VALUE};
        for (int unit = 0; unit < 3; unit++) {
            for (int index : wrong) {
                CHECK.due("nameLetter(" + unit + ", " + index + ")", manager.nameLetter(unit, index), NONE);
            }
        }
        CHECK.due("nameLetter(0, 0)", manager.nameLetter(0, 0), 'z');
        CHECK.due("nameLetter(0, 1)", manager.nameLetter(0, 1), NONE);
        CHECK.due("nameLetter(1, 0)", manager.nameLetter(1, 0), 'a');
        CHECK.due("nameLetter(1, 7)", manager.nameLetter(1, 7), 'h');
        CHECK.due("nameLetter(2, 1)", manager.nameLetter(2, 1), 'y');
        CHECK.due("nameLetter(2, 2)", manager.nameLetter(2, 2), NONE);
        CHECK.noSuchUnit("nameLetter(3, 0)", manager, () -> manager.nameLetter(3, 0));
        CHECK.noSuchUnit("nameLetter(3, -1)", manager, () -> manager.nameLetter(3, -1));
    }

    /** Promise 9: "what: 0 startup, ... 9 idle"; "Throws IllegalArgumentException if what is out of range". */
    private static void property() {
        ServiceManager manager = Check.made("service a startup 11 idle 99;socket s a 5;target t");
        CHECK.due("property(0, 0)", manager.property(0, 0), 11);
        CHECK.due("property(0, 9)", manager.property(0, 9), 99);
        for (int unit = 0; unit < 3; unit++) {
            int one = unit;
            CHECK.outOfRange("property(" + unit + ", -1)", manager, () -> manager.property(one, -1));
            CHECK.outOfRange("property(" + unit + ", 10)", manager, () -> manager.property(one, 10));
        }
    }

    /** Promise 9: "NONE if the unit is no service". */
    private static void propertyOfNoService() {
        ServiceManager manager = Check.made("service a startup 11 idle 99;socket s a 5;target t");
        for (int what = 0; what <= 9; what++) {
            CHECK.due("property(1, " + what + ")", manager.property(1, what), NONE);
            CHECK.due("property(2, " + what + ")", manager.property(2, what), NONE);
        }
    }

    /** Promise 10: "relation: 0 requires, ... 5"; "Throws IllegalArgumentException if relation is out of range". */
    private static void related() {
        ServiceManager manager = sixteen();
        CHECK.due("related(0, 0)", manager.related(0, 0), 32768);
        for (int relation = 1; relation <= 5; relation++) {
            CHECK.due("related(15, " + relation + ")", manager.related(15, relation), 1);
        }
        CHECK.due("related(0, 5)", manager.related(0, 5), 0);
        CHECK.outOfRange("related(0, -1)", manager, () -> manager.related(0, -1));
        CHECK.outOfRange("related(0, 6)", manager, () -> manager.related(0, 6));
    }

    /** Promise 10: "4 conflicts (as told, in this direction only)". */
    private static void relatedInOneDirection() {
        ServiceManager manager = Check.made("target a;target b;a conflicts b");
        CHECK.due("related(a, 4)", manager.related(0, 4), 2);
        CHECK.due("related(b, 4)", manager.related(1, 4), 0);
    }

    /** Promise 10: "5 is ordered after (also by before)". */
    private static void relatedByBefore() {
        ServiceManager manager = Check.made("target a;target b;target c;a after b;c before a");
        CHECK.due("related(a, 5)", manager.related(0, 5), 6);
        CHECK.due("related(b, 5)", manager.related(1, 5), 0);
        CHECK.due("related(c, 5)", manager.related(2, 5), 0);
    }

    /** Promise 10: "Returns the set of units": to all fifteen others. */
    private static void relatedToAll() {
        for (int relation = 0; relation < 6; relation++) {
            String word = new String[] {"requires", "wants", "binds", "partof", "conflicts", "after"}[relation];
            StringBuilder relations = new StringBuilder();
            for (int other = 0; other < 15; other++) {
                relations.append(";p ").append(word).append(' ').append((char) ('a' + other));
            }
            CHECK.due("related() to all others by " + word, Check.made(Check.targets(16, relations.toString())).related(15, relation), 32767);
        }
    }

    /** Promise 11: "NONE if the unit is no socket". */
    private static void serviceOf() {
        ServiceManager manager = Check.made("service a;socket s a 5;target t;service b;socket r b 5;socket q a 1");
        int[] services = {NONE, 0, NONE, NONE, 3, 0};
        for (int unit = 0; unit < 6; unit++) {
            CHECK.due("serviceOf(" + unit + ")", manager.serviceOf(unit), services[unit]);
        }
        CHECK.noSuchUnit("serviceOf(6)", manager, () -> manager.serviceOf(6));
    }

    public static void main(String[] args) {
        manyCalls();
        sixteenUnits();
        setsOfUnits();
        timeFromZero();
        needs();
        follows();
        opponents();
        orderIsNoNeed();
        oneJob();
        withoutUnits();
        emptyBuffer();
        noSnapshots();
        ownObjects();
        unitCounts();
        kindOf();
        nameLetter();
        property();
        propertyOfNoService();
        related();
        relatedInOneDirection();
        relatedByBefore();
        relatedToAll();
        serviceOf();
        CHECK.finish();
    }
}
