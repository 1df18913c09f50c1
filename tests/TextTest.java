/** Promises 2 to 5, and section 2: the input buffer, the texts, and each error with its position. */
public final class TextTest {

    private static final Check CHECK = new Check();

    private static void appending() {
        ServiceManager manager = new ServiceManager();
        CHECK.due("append(0)", manager.append(0), 0);
        CHECK.due("append of one byte", manager.append('t'), 1);
        CHECK.due("append of bytes with zeros between", manager.append(0x6100720067000065L), 5);
        CHECK.due("append of a byte at the front", manager.append(0x7400000000000000L), 6);
        CHECK.due("append(0) to some bytes", manager.append(0), 6);
        manager.append(Check.packed(" abc"));
        CHECK.due("load() of what was appended", manager.load(), 1);
        CHECK.due("the first letter of the name", manager.nameLetter(0, 0), 'a');
        CHECK.due("the last letter of the name", manager.nameLetter(0, 2), 'c');
        CHECK.due("append() after load()", manager.append(-1L), 8);
        manager.find();
        CHECK.due("append() after find()", manager.append(Long.MIN_VALUE), 1);
        CHECK.due("append of 127 at the front", manager.append(Long.MAX_VALUE), 9);
    }

    private static void fullBuffer() {
        ServiceManager manager = new ServiceManager();
        Check.write(manager, "target a");
        for (int bytes = 8; bytes < 792; bytes += 8) {
            CHECK.due("append at " + bytes, manager.append(0x2020202020202020L), bytes + 8);
        }
        CHECK.due("append of 4 bytes at 792", manager.append(0x20202020L), 796);
        CHECK.due("append of 5 bytes at 796", manager.append(0x2020202020L), ServiceManager.FULL);
        CHECK.due("append of 8 bytes at 796", manager.append(-1L), ServiceManager.FULL);
        CHECK.due("append(0) at 796", manager.append(0), 796);
        CHECK.due("append of 4 bytes at 796", manager.append(0x20202020L), 800);
        CHECK.due("append of a byte to a full buffer", manager.append(1), ServiceManager.FULL);
        CHECK.due("append(0) to a full buffer", manager.append(0), 800);
        CHECK.due("load() of a full buffer", manager.load(), 1);
        CHECK.due("append after it", manager.append(1), 1);
    }

    private static void errorsOfPlace() {
        String[] texts = {"^", "   ^", "service^", "service ^", "service a;^", "service a; ^", "^;service a", "service a;^;target b",
            "^Service a", "^services a", "^servicea", "^a", "^5", "service ^5", "service ^;", "service a ^5", "service a ^colour 5",
            "service a ^{startup 5}", "service a startup^", "service a startup ^x", "service a startup ^-1", "service a startup 5 ^6",
            "service a startup ^;", "service a restart ^sometimes", "service a restart ^1", "service a restart^", "service a limit 5^",
            "service a limit 5 ^startup 3", "service a limit ^always", "service a^\tstartup 5", "service a^,", "service a ^target b",
            "service a; socket^", "service a; socket s^", "service a; socket s a^", "service a; socket s a ^b",
            "service a; socket s ^5", "service a; socket s a 5 ^6", "service a; socket s a 5 ^startup", "target a ^startup 5", "target a ^5",
            "target a; ^b requires a", "target a; ^abcdefghi requires a", "target a; a^", "target a; a ^;", "target a; a ^needs a",
            "target a; a ^5", "target a; a requires^", "target a; a requires ^7", "target a; target b; a requires b ^b",
            "target a; target b; a after b^,", "^\u00e4", "target a^\u00ff", "service a ^starT"};
        for (String text : texts) {
            CHECK.failsToRead(1, text);
        }
    }

    private static void errorsOfRange() {
        String[] properties = {"startup ^101", "stopping ^101", "run ^1001", "exit ^256", "fails ^10", "delay ^0", "delay ^101",
            "limit ^0 10", "limit ^10 10", "limit 5 ^0", "limit 5 ^1001", "idle ^1001", "startup ^99999999999999999999",
            "startup  ^4294967296", "startup ^2147483648", "run 5 run ^00001001", "limit ^0 0"};
        for (String property : properties) {
            CHECK.failsToRead(2, "service a " + property);
        }
        CHECK.failsToRead(2, "service a; socket s a ^0");
        CHECK.failsToRead(2, "service a; socket s a ^51");
        CHECK.failsToRead(2, "service a startup ^101; bogus");
        CHECK.failsToRead(2, "service a startup5stopping^777run");
    }

    private static void errorsOfNames() {
        String[] texts = {"service ^abcdefghi", "target ^abcdefghijklmnop", "service ^service", "service ^socket", "target ^target",
            "service a; target ^a", "service a; socket ^a a 5", "service a; socket ^target a 5", "service a; socket s ^b 5",
            "service a; socket s ^s 5", "target t; socket s ^t 5", "service a; socket s a 5; socket r ^s 5", "socket s ^service 5",
            "service a; socket s ^abcdefghi 5", "target a; a requires ^b", "target a; a requires ^a", "target a; a after ^a",
            "target a; a before ^a", "target a; a conflicts ^target", "target a; a wants ^abcdefghi", "target a; a requires ^requires"};
        for (String text : texts) {
            CHECK.failsToRead(3, text);
        }
    }

    private static void errorsOfNumber() {
        StringBuilder sixteen = new StringBuilder("service a");
        for (int unit = 1; unit < 16; unit++) {
            sixteen.append(";target ").append((char) ('a' + unit));
        }
        CHECK.reads(sixteen.toString(), 16);
        CHECK.reads(sixteen + "; a after p; p requires a", 16);
        CHECK.failsToRead(4, sixteen + ";^target q");
        CHECK.failsToRead(4, sixteen + ";  ^service q startup 101");
        CHECK.failsToRead(4, sixteen + ";^socket q a 5; bogus");
        CHECK.failsToRead(4, sixteen + ";a after p;^target a");
        CHECK.failsToRead(4, sixteen + ";^target abcdefghi");
        CHECK.failsToRead(4, sixteen + ";^target");
        CHECK.failsToRead(1, sixteen + ";^q");
    }

    private static void goodTexts() {
        CHECK.reads("service a", 1);
        CHECK.reads("  service  a  ;  target  b  ", 2);
        CHECK.reads("service abcdefgh", 1);
        CHECK.reads("service a startup5stopping 7run8 restart always", 1);
        CHECK.reads("service a startup 0 stopping 0 run 0 exit 0 fails 0 delay 1 limit 1 1 idle 0", 1);
        CHECK.reads("service a startup 100 stopping 100 run 1000 exit 255 fails 9 delay 100 limit 9 1000 idle 1000", 1);
        CHECK.reads("service a startup 0000000000000000000000100", 1);
        CHECK.reads("service a;socket b a 1;socket c a 50", 3);
        CHECK.reads("service startup startup 5; target requires; startup requires requires; requires after startup", 2);
        CHECK.reads("target never;target always;never before always;always conflicts never;never wants always;"
            + "never binds always;never partof always", 2);
        CHECK.reads("target a; target b; a requires b; a requires b", 2);
    }

    private static void beginsAnew() {
        ServiceManager manager = Check.made("service a run 3 exit 7 restart never; service b startup 2; socket s a 5; b after a");
        for (int unit = 0; unit < 3; unit++) {
            manager.start(unit, false);
        }
        manager.setMasked(1, true);
        manager.connect(2, 3);
        manager.advance(10);
        manager.start(1, false);
        Check.reload(manager, "service a; service b; socket s a 5");
        CHECK.due("everything after another text", Check.everything(manager),
            Check.everything(Check.made("service a; service b; socket s a 5")));
        CHECK.due("begins() after another text", manager.begins(0), 0);
        CHECK.due("logEntry() after another text", manager.logEntry(0, 0), ServiceManager.NONE);
        manager = Check.made("service a run 2 restart always;socket s a 9;service b stopping 9;a after b;b after s;b requires a");
        manager.start(0, false);
        manager.start(1, false);
        manager.advance(3);
        manager.start(2, false);
        manager.stop(0, false);
        manager.connect(1, 4);
        CHECK.due("a has been restarted", manager.restarts(0), 1);
        CHECK.due("b is to stop, and a to start after that", manager.queueLength(), 2);
        Check.reload(manager, "service a;socket s a 9;service b");
        CHECK.due("everything after a third text", Check.everything(manager), Check.everything(Check.made("service a;socket s a 9;service b")));
        CHECK.due("allStopped() after a third text", manager.allStopped(0), 0b001);
        CHECK.due("allNeeded() after a third text", manager.allNeeded(2), 0);
        CHECK.due("orderingCircle() after a third text", manager.orderingCircle(), 0);
        manager = Check.made("service a;socket s a 2;target t;s after t");
        manager.start(1, false);
        manager.setMasked(0, true);
        manager.connect(1, 9);
        CHECK.due("lost() before", manager.lost(1), 7);
        Check.reload(manager, "service a;socket s a 2;target t;s requires t");
        CHECK.due("everything after a fourth text", Check.everything(manager),
            Check.everything(Check.made("service a;socket s a 2;target t;s requires t")));
        manager.start(1, false);
        CHECK.due("planDepth() of a stop that is not ordered any more", manager.planDepth(2, 2), 1);
    }

    private static void loadErrors() {
        ServiceManager manager = new ServiceManager();
        CHECK.due("loadError() without a load()", manager.loadError(), 0);
        CHECK.due("load() of an empty buffer", manager.load(), -100);
        CHECK.due("loadError() of an empty text", manager.loadError(), 1);
        manager.append('a');
        manager.find();
        CHECK.due("loadError() after other calls", manager.loadError(), 1);
        Check.reload(manager, "target a");
        CHECK.due("loadError() after a good text", manager.loadError(), 0);
    }

    private static void finding() {
        ServiceManager manager = Check.made("service a; target ab; target abcdefgh");
        CHECK.due("find a", Check.find(manager, "a"), 0);
        CHECK.due("find ab", Check.find(manager, "ab"), 1);
        CHECK.due("find abcdefgh", Check.find(manager, "abcdefgh"), 2);
        String[] others = {"", "b", "abc", "abcdefg", "abcdefghi", " a", "a ", "A", "service", "a;"};
        for (String other : others) {
            CHECK.due("find \"" + other + "\"", Check.find(manager, other), ServiceManager.NONE);
            CHECK.due("the buffer after it", manager.append(0), 0);
        }
        manager.append('a');
        manager.append('b');
        CHECK.due("find in two parts", manager.find(), 1);
        for (int call = 0; call < 100; call++) {
            manager.append(0x6161616161616161L);
        }
        CHECK.due("find of 800 letters", manager.find(), ServiceManager.NONE);
    }

    public static void main(String[] args) {
        appending();
        fullBuffer();
        errorsOfPlace();
        errorsOfRange();
        errorsOfNames();
        errorsOfNumber();
        goodTexts();
        beginsAnew();
        loadErrors();
        finding();
        CHECK.finish();
    }
}
