/** Promises 43 to 52: what follows from the relations, and predictions, which change nothing. */
public final class AnalysisTest {

    private static final int NONE = ServiceManager.NONE;
    private static final Check CHECK = new Check();

    private static void needs() {
        ServiceManager manager = Check.made("service a;service b;service c;target d;target e;target f;a requires b;b binds c;c wants d;"
            + "d requires e;e requires d;f partof a;a conflicts f;a after f");
        int[] needed = {0b000110, 0b000100, 0, 0b011000, 0b011000, 0};
        int[] stopped = {0b100001, 0b100011, 0b100111, 0b011000, 0b011000, 0b100000};
        for (int unit = 0; unit < 6; unit++) {
            CHECK.due("allNeeded(" + unit + ")", manager.allNeeded(unit), needed[unit]);
            CHECK.due("allStopped(" + unit + ")", manager.allStopped(unit), stopped[unit]);
        }
        manager = Check.made("target a;target b;target c;a requires b;b binds c;c requires a");
        CHECK.due("allNeeded() in a circle", manager.allNeeded(1), 0b111);
        CHECK.due("allStopped() in a circle", manager.allStopped(2), 0b111);
    }

    private static void circles() {
        ServiceManager manager = Check.made("target a;target b;target c;target d;target e;target f;a after b;b after c;c after a;"
            + "d after a;b after e;e before f;f before e");
        CHECK.due("orderingCircle()", manager.orderingCircle(), 0b100111 | 0b010000);
        CHECK.due("orderingCircle() without one", Check.made("target a;target b;target c;a after b;b after c;a after c;a requires b;b requires a").orderingCircle(), 0);
        CHECK.due("orderingCircle() without units", new ServiceManager().orderingCircle(), 0);
    }

    private static void longCircle() {
        StringBuilder text = new StringBuilder("target a");
        for (int unit = 1; unit < 16; unit++) {
            text.append(";target ").append((char) ('a' + unit));
        }
        for (int unit = 0; unit < 16; unit++) {
            char one = (char) ('a' + unit);
            char other = (char) ('a' + (unit + 1) % 16);
            text.append(';').append(one).append(" after ").append(other).append(';').append(other).append(" requires ").append(one);
        }
        ServiceManager manager = Check.made(text.toString());
        CHECK.due("orderingCircle() of 16", manager.orderingCircle(), 0xFFFF);
        CHECK.due("allNeeded() of 16", manager.allNeeded(7), 0xFFFF);
        CHECK.due("allStopped() of 16", manager.allStopped(7), 0xFFFF);
        CHECK.due("start() of 16 in a circle", manager.start(3, false), ServiceManager.CYCLE);
    }

    private static void sound() {
        ServiceManager manager = Check.made("service a;target b;target c;target d;b requires a;c binds b;d wants a;d partof a");
        CHECK.due("isSound() at first", manager.isSound(), true);
        manager.start(2, false);
        CHECK.due("isSound() with all active", manager.isSound(), true);
        manager.kill(0, 1);
        CHECK.due("isSound() without a", manager.isSound(), false);
        manager.stop(1, false);
        CHECK.due("isSound() with b stopped, too", manager.isSound(), true);
        manager.start(3, false);
        manager.kill(0, 1);
        CHECK.due("isSound() for what wants and is part", manager.isSound(), true);
        manager.start(2, false);
        CHECK.due("isSound() again", manager.isSound(), true);
        manager.stop(1, false);
        CHECK.due("isSound() when what follows is stopped", manager.isSound(), true);
        manager = Check.made("service a;target b;b binds a");
        manager.start(1, false);
        manager.kill(0, 0);
        CHECK.due("isSound() when bound units are stopped", manager.isSound(), true);
    }

    /** A prediction must answer this, and change nothing. */
    private static void predicted(String what, ServiceManager manager, String before, int got, int due) {
        CHECK.due(what, got, due);
        CHECK.due(what + " changes nothing", Check.everything(manager), before);
    }

    private static void untilActive() {
        ServiceManager manager = Check.made("service a startup 3;service b startup 100;service c;service d fails 1 startup 7;"
            + "service e fails 2 startup 4 restart failure delay 6;b requires a;b after a;c conflicts b;service f stopping 8;f conflicts a;a after f;"
            + "service g fails 9 restart always delay 100 limit 9 1000 startup 100;service h startup 1;h after g;service i fails 9 restart always delay 100 startup 90 limit 9 1000");
        String before = Check.everything(manager);
        predicted("ticksUntilActive() of a", manager, before, manager.ticksUntilActive(0), 3);
        predicted("ticksUntilActive() of what needs a", manager, before, manager.ticksUntilActive(1), 103);
        predicted("ticksUntilActive() at once", manager, before, manager.ticksUntilActive(2), 0);
        predicted("ticksUntilActive() of what fails", manager, before, manager.ticksUntilActive(3), NONE);
        predicted("ticksUntilActive() after restarts", manager, before, manager.ticksUntilActive(4), 24);
        predicted("ticksUntilActive() of what fails for long", manager, before, manager.ticksUntilActive(6), NONE);
        manager.start(5, false);
        before = Check.everything(manager);
        predicted("ticksUntilActive() after a stop", manager, before, manager.ticksUntilActive(0), 11);
        manager.start(1, false);
        manager.advance(2);
        before = Check.everything(manager);
        predicted("ticksUntilActive() of what is on its way", manager, before, manager.ticksUntilActive(1), 109);
        predicted("ticksUntilActive() that replaces", manager, before, manager.ticksUntilActive(2), 0);
        manager.setMasked(0, true);
        before = Check.everything(manager);
        predicted("ticksUntilActive() of a masked unit", manager, before, manager.ticksUntilActive(0), ServiceManager.MASKED);
        predicted("ticksUntilActive() of what needs it", manager, before, manager.ticksUntilActive(1), ServiceManager.MASKED);
        manager = Check.made("target a;target b;a requires b;a conflicts b");
        predicted("ticksUntilActive() with CONFLICT", manager, Check.everything(manager), manager.ticksUntilActive(0), ServiceManager.CONFLICT);
        manager = Check.made("target a;target b;a requires b;a after b;b after a");
        predicted("ticksUntilActive() with CYCLE", manager, Check.everything(manager), manager.ticksUntilActive(0), ServiceManager.CYCLE);
        manager = Check.made("target a");
        manager.start(0, false);
        predicted("ticksUntilActive() of an active unit", manager, Check.everything(manager), manager.ticksUntilActive(0), 0);
    }

    /** Just 1000 ticks are within 1000 ticks; 1001 are not. */
    private static void farAway() {
        String chain = "service a startup 100;service b startup 100;service c startup 100;service d startup 100;service e startup 100;"
            + "service f startup 100;service g startup 100;service h startup 100;service i startup 100;service j startup 100;service k;service l startup 1;"
            + "b after a;c after b;d after c;e after d;f after e;g after f;h after g;i after h;j after i;k after j;l after j;"
            + "k wants a;k wants b;k wants c;k wants d;k wants e;k wants f;k wants g;k wants h;k wants i;k wants j;l wants k";
        ServiceManager manager = Check.made(chain);
        String before = Check.everything(manager);
        predicted("ticksUntilActive() after 1000", manager, before, manager.ticksUntilActive(10), 1000);
        manager.start(11, false);
        before = Check.everything(manager);
        predicted("ticksUntilActive() after 1001", manager, before, manager.ticksUntilActive(11), NONE);
        predicted("ticksUntilQuiet() after 1001", manager, before, manager.ticksUntilQuiet(), NONE);
        predicted("stateAfter() of 1000", manager, before, manager.stateAfter(11, 1000), 1);
        predicted("stateAfter() of 999", manager, before, manager.stateAfter(11, 999), 0);
        predicted("criticalTime() of k", manager, before, manager.criticalTime(10), 1000);
        manager.advance(1);
        before = Check.everything(manager);
        predicted("ticksUntilActive() after 1000 then", manager, before, manager.ticksUntilActive(11), 1000);
        predicted("ticksUntilQuiet() after 1000 then", manager, before, manager.ticksUntilQuiet(), 1000);
    }

    private static void untilQuiet() {
        ServiceManager manager = Check.made("service a startup 3 stopping 2;service b run 4 exit 1 restart failure delay 5 limit 3 100;service c stopping 7;"
            + "service d run 1 restart always limit 9 9");
        predicted("ticksUntilQuiet() at first", manager, Check.everything(manager), manager.ticksUntilQuiet(), 0);
        manager.start(0, false);
        predicted("ticksUntilQuiet() of a start", manager, Check.everything(manager), manager.ticksUntilQuiet(), 3);
        manager.restart(0, true);
        predicted("ticksUntilQuiet() of a restart", manager, Check.everything(manager), manager.ticksUntilQuiet(), 5);
        manager.start(2, false);
        manager.stop(2, false);
        predicted("ticksUntilQuiet() of a stop", manager, Check.everything(manager), manager.ticksUntilQuiet(), 7);
        manager.advance(7);
        manager.start(1, false);
        predicted("ticksUntilQuiet() while b is active", manager, Check.everything(manager), manager.ticksUntilQuiet(), 0);
        manager.advance(4);
        predicted("ticksUntilQuiet() while b waits", manager, Check.everything(manager), manager.ticksUntilQuiet(), 5);
        predicted("stateAfter() of b, when its limit is hit", manager, Check.everything(manager), manager.stateAfter(1, 23), 4);
        predicted("stateAfter() of b, just before", manager, Check.everything(manager), manager.stateAfter(1, 22), 5);
        predicted("stateAfter() of b, now", manager, Check.everything(manager), manager.stateAfter(1, 0), 5);
        predicted("stateAfter() of b, then", manager, Check.everything(manager), manager.stateAfter(1, 1000), 4);
        manager.start(3, false);
        manager.advance(1);
        predicted("stateAfter() of d, restarted for ever", manager, Check.everything(manager), manager.stateAfter(3, 1), 2);
    }

    private static void damage() {
        ServiceManager manager = Check.made("service a;service b stopping 3;service c;service d run 5;target t;b binds a;c requires a;t partof b;"
            + "service e startup 9;service f restart always;service g;g binds f");
        for (int unit : new int[] {1, 2, 3, 4, 5, 6}) {
            manager.start(unit, false);
        }
        String before = Check.everything(manager);
        predicted("damageOf() of a", manager, before, manager.damageOf(0, 0), 0b0010011);
        predicted("damageOf() of a, later", manager, before, manager.damageOf(0, 5), 0b0011011);
        predicted("damageOf() of b", manager, before, manager.damageOf(1, 0), 0b0000010);
        predicted("damageOf() of d", manager, before, manager.damageOf(3, 0), 0b0001000);
        predicted("damageOf() of d, later", manager, before, manager.damageOf(3, 200), 0b0001000);
        predicted("damageOf() of a target", manager, before, manager.damageOf(4, 0), 0);
        predicted("damageOf() of what starts", manager, before, manager.damageOf(5, 0), 0);
        predicted("damageOf() of what starts, later", manager, before, manager.damageOf(5, 5), 0b0001000);
        predicted("damageOf() of what is inactive", manager, before, manager.damageOf(7, 200), 0);
        predicted("weakest()", manager, before, manager.weakest(), 0);
        manager.start(7, false);
        before = Check.everything(manager);
        predicted("damageOf() of f", manager, before, manager.damageOf(6, 0), 0b11000000);
        predicted("damageOf() of f, after its restart", manager, before, manager.damageOf(6, 1), 0b10000000);
        predicted("weakest() then", manager, before, manager.weakest(), 0);
        manager.stop(1, false);
        before = Check.everything(manager);
        predicted("weakest() when b stops", manager, before, manager.weakest(), 6);
        manager.stop(7, false);
        predicted("weakest() of several", manager, Check.everything(manager), manager.weakest(), 0);
        manager.stop(0, false);
        predicted("weakest() without a", manager, Check.everything(manager), manager.weakest(), 3);
        manager = Check.made("target a;service b");
        predicted("weakest() without any damage", manager, Check.everything(manager), manager.weakest(), 0);
        CHECK.due("weakest() without units", new ServiceManager().weakest(), NONE);
        CHECK.due("ticksUntilQuiet() without units", new ServiceManager().ticksUntilQuiet(), 0);
    }

    private static void critical() {
        ServiceManager manager = Check.made("service a startup 3;service b startup 100;service c startup 7;target t;socket s a 5;t requires a;t requires b;"
            + "t wants c;c after a;t after c;s after t;t wants s;service d stopping 9 startup 50;d conflicts a;a after d");
        String before = Check.everything(manager);
        predicted("criticalTime() of one", manager, before, manager.criticalTime(2), 7);
        predicted("criticalTime() of many", manager, before, manager.criticalTime(3), 100);
        manager.setMasked(2, true);
        CHECK.due("criticalTime() without c", manager.criticalTime(3), 100);
        CHECK.due("criticalTime() of a masked one", manager.criticalTime(2), ServiceManager.MASKED);
        manager.setMasked(2, false);
        manager.start(1, false);
        manager.advance(100);
        manager.start(5, false);
        manager.advance(50);
        before = Check.everything(manager);
        predicted("criticalTime() with b active", manager, before, manager.criticalTime(3), 10);
        predicted("criticalTime() of what is active", manager, before, manager.criticalTime(1), 0);
        CHECK.due("planDepth() of the same", manager.planDepth(3, 1), 5);
        CHECK.due("the stop counts there alone", manager.plan(3, 1, 2), 0b100000);
        CHECK.due("criticalTime() of a socket", manager.criticalTime(4), 0);
    }

    /** A chain over a job to stop is no chain of jobs to start. */
    private static void criticalOverAStop() {
        ServiceManager manager = Check.made("service a startup 5;service b startup 6;service c startup 9;a requires b;a conflicts c;c after b;a after c");
        manager.start(2, false);
        manager.advance(9);
        CHECK.due("criticalTime() over a stop", manager.criticalTime(0), 6);
        manager = Check.made("service a startup 5;service b startup 6;service c startup 9;a requires b;a wants c;a after c;c after b");
        CHECK.due("criticalTime() of a chain", manager.criticalTime(0), 20);
        manager.start(1, false);
        CHECK.due("criticalTime() with a start on its way", manager.criticalTime(0), 20);
        CHECK.due("ticksUntilActive() of the same", manager.ticksUntilActive(0), 20);
        manager.advance(6);
        CHECK.due("criticalTime() with b active", manager.criticalTime(0), 14);
    }

    public static void main(String[] args) {
        needs();
        circles();
        longCircle();
        sound();
        untilActive();
        farAway();
        untilQuiet();
        damage();
        critical();
        criticalOverAStop();
        CHECK.finish();
    }
}
