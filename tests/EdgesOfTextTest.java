/** Section 2 and promises 2 to 5: a test for each sentence that names a boundary case. */
public final class EdgesOfTextTest {

    private static final int NONE = ServiceManager.NONE;
    private static final int FULL = ServiceManager.FULL;
    private static final Check CHECK = new Check();

    // ---- section 2: the statements

    /** Section 2: "A configuration is a text: a list of one or more statements, separated by semicolons". */
    private static void oneOrMoreStatements() {
        CHECK.failsToRead(1, "^");
        CHECK.failsToRead(1, "    ^");
        CHECK.failsToRead(1, "^;");
        CHECK.reads("target a", 1);
        CHECK.reads("target a;target b", 2);
        CHECK.failsToRead(1, "target a;^");
        CHECK.failsToRead(1, "^;target a");
        CHECK.failsToRead(1, "target a;^;target b");
        CHECK.failsToRead(1, "target a ^target b");
    }

    /** Promise 2 and section 2: as many statements as 800 bytes can hold. */
    private static void manyStatements() {
        StringBuilder text = new StringBuilder("target a;target b");
        while (text.length() + 10 <= 800) {
            text.append(";a after b");
        }
        CHECK.reads(text.toString(), 2);
        CHECK.failsToRead(1, text + ";^");
    }

    /** A property of a service: what it is without the word, at both ends of its range, and beside them. */
    private static void ofService(String word, int what, int without, int least, int greatest) {
        CHECK.due("no " + word, Check.made("service a").property(0, what), without);
        for (int value : new int[] {least, least + 1, greatest - 1, greatest}) {
            CHECK.due(word + " " + value, Check.made("service a " + word + " " + value).property(0, what), value);
        }
        CHECK.failsToRead(2, "service a " + word + " ^" + (greatest + 1));
        if (least > 0) {
            CHECK.failsToRead(2, "service a " + word + " ^" + (least - 1));
        }
        CHECK.failsToRead(1, "service a " + word + " ^-1");
        CHECK.failsToRead(1, "service a " + word + "^");
    }

    /** Section 2: "startup N - the number of ticks that it needs to become active, 0 to 100 (0 without it)". */
    private static void startup() {
        ofService("startup", 0, 0, 0, 100);
    }

    /** Section 2: "stopping N - the number of ticks that it needs to stop, 0 to 100 (0)". */
    private static void stopping() {
        ofService("stopping", 1, 0, 0, 100);
    }

    /** Section 2: "run N - after how many ticks of being active it exits, 0 to 1000, where 0 means never (0)". */
    private static void run() {
        ofService("run", 2, 0, 0, 1000);
        ServiceManager manager = Check.made("service a run 0;service b run 1;service c run 1000");
        for (int unit = 0; unit < 3; unit++) {
            manager.start(unit, false);
        }
        manager.advance(1);
        CHECK.due("run 1 after 1", Check.states(manager), "202");
        manager.advance(998);
        CHECK.due("run 1000 after 999", Check.states(manager), "202");
        manager.advance(1);
        CHECK.due("run 1000 after 1000", Check.states(manager), "200");
        manager.advance(1000);
        CHECK.due("run 0 means never", Check.states(manager), "200");
        CHECK.due("nothing is due with run 0", manager.dueAt(0), NONE);
    }

    /** Section 2: "exit CODE - with which exit code it exits then, 0 to 255 (0)". */
    private static void exit() {
        ofService("exit", 3, 0, 0, 255);
        ServiceManager manager = Check.made("service a run 1;service b run 1 exit 0;service c run 1 exit 1;service d run 1 exit 255");
        for (int unit = 0; unit < 4; unit++) {
            manager.start(unit, false);
        }
        manager.advance(1);
        int[] codes = {0, 0, 1, 255};
        for (int unit = 0; unit < 4; unit++) {
            CHECK.due("exitCode(" + unit + ")", manager.exitCode(unit), codes[unit]);
        }
    }

    /** Section 2: "fails N - how many of its first activations fail, 0 to 9 (0)". */
    private static void fails() {
        ofService("fails", 4, 0, 0, 9);
        ServiceManager manager = Check.made("service a fails 0;service b fails 1;service c fails 9 limit 9 1;service d");
        for (int time = 1; time <= 10; time++) {
            for (int unit = 0; unit < 4; unit++) {
                manager.start(unit, false);
            }
            String due = "2" + (time > 1 ? "2" : "4") + (time > 9 ? "2" : "4") + "2";
            CHECK.due("the activations number " + time, Check.states(manager), due);
            manager.advance(1);
        }
    }

    /** Section 2: "restart POLICY - one of the words never, failure and always (never)". */
    private static void policy() {
        CHECK.due("no policy", Check.made("service a").property(0, 5), 0);
        String[] words = {"never", "failure", "always"};
        for (int policy = 0; policy < 3; policy++) {
            CHECK.due("restart " + words[policy], Check.made("service a restart " + words[policy]).property(0, 5), policy);
            CHECK.failsToRead(1, "service a restart ^" + words[policy] + "s");
            CHECK.failsToRead(1, "service a restart ^" + words[policy].substring(1));
        }
        CHECK.failsToRead(1, "service a restart ^0");
        CHECK.failsToRead(1, "service a restart ^;");
        CHECK.failsToRead(1, "service a restart ^startup 5");
        CHECK.failsToRead(1, "service a restart^");
    }

    /** Section 2: "delay N - the number of ticks before a restart, 1 to 100 (1)". */
    private static void delay() {
        ofService("delay", 6, 1, 1, 100);
        ServiceManager manager = Check.made("service a run 1 restart always;service b run 1 restart always delay 1;"
            + "service c run 1 restart always delay 100 startup 0");
        for (int unit = 0; unit < 3; unit++) {
            manager.start(unit, false);
        }
        manager.advance(1);
        CHECK.due("all wait for their restart", Check.states(manager), "555");
        manager.advance(1);
        CHECK.due("delay 1 after 1", Check.states(manager), "225");
        manager.advance(98);
        CHECK.due("delay 100 after 99", manager.stateOf(2), 5);
        manager.advance(1);
        CHECK.due("delay 100 after 100", manager.stateOf(2), 2);
    }

    /** Section 2: "limit BURST INTERVAL - 1 to 9 and 1 to 1000 (5 and 10)". */
    private static void limit() {
        CHECK.due("no limit: BURST", Check.made("service a").property(0, 7), 5);
        CHECK.due("no limit: INTERVAL", Check.made("service a").property(0, 8), 10);
        int[][] good = {{1, 1}, {9, 1000}, {1, 1000}, {9, 1}, {2, 999}, {8, 2}};
        for (int[] numbers : good) {
            ServiceManager manager = Check.made("service a limit " + numbers[0] + " " + numbers[1]);
            CHECK.due("BURST " + numbers[0], manager.property(0, 7), numbers[0]);
            CHECK.due("INTERVAL " + numbers[1], manager.property(0, 8), numbers[1]);
        }
        CHECK.failsToRead(2, "service a limit ^0 10");
        CHECK.failsToRead(2, "service a limit ^10 10");
        CHECK.failsToRead(2, "service a limit 5 ^0");
        CHECK.failsToRead(2, "service a limit 5 ^1001");
        CHECK.failsToRead(2, "service a limit ^0 1001");
        CHECK.failsToRead(1, "service a limit 5^");
        CHECK.failsToRead(1, "service a limit 5 ^;");
        CHECK.failsToRead(1, "service a limit^");
        CHECK.failsToRead(1, "service a limit 5 ^startup 5");
    }

    /** Section 2: "idle N - after how many ticks without a connection it goes, 0 to 1000, where 0 means never (0)". */
    private static void idle() {
        ofService("idle", 9, 0, 0, 1000);
        ServiceManager manager = Check.made("service a idle 0;service b idle 1;service c idle 1000");
        for (int unit = 0; unit < 3; unit++) {
            manager.start(unit, false);
        }
        manager.advance(1);
        CHECK.due("idle 1 after 1", Check.states(manager), "202");
        manager.advance(998);
        CHECK.due("idle 1000 after 999", Check.states(manager), "202");
        manager.advance(1);
        CHECK.due("idle 1000 after 1000", Check.states(manager), "200");
        manager.advance(1000);
        CHECK.due("idle 0 means never", Check.states(manager), "200");
        CHECK.due("nothing is due with idle 0", manager.dueAt(0), NONE);
    }

    /** Section 2: "socket NAME SERVICE BACKLOG - a socket for a service that was described before". */
    private static void socketOfService() {
        CHECK.reads("service a;socket s a 5", 2);
        CHECK.failsToRead(3, "socket s ^a 5;service a");
        CHECK.failsToRead(3, "service b;socket s ^a 5;service a");
        CHECK.failsToRead(3, "target a;socket s ^a 5");
        CHECK.failsToRead(3, "service a;socket r a 5;socket s ^r 5");
        CHECK.failsToRead(3, "service a;socket s ^s 5");
    }

    /** Section 2: "at most BACKLOG connections, 1 to 50, are queued". */
    private static void backlog() {
        for (int backlog : new int[] {1, 2, 49, 50}) {
            ServiceManager manager = Check.made("service a startup 9;socket s a " + backlog);
            manager.start(1, false);
            CHECK.due("connect() to a backlog of " + backlog, manager.connect(1, 100), backlog);
            CHECK.due("queued() with a backlog of " + backlog, manager.queued(1), backlog);
            CHECK.due("lost() with a backlog of " + backlog, manager.lost(1), 100 - backlog);
        }
        CHECK.failsToRead(2, "service a;socket s a ^0");
        CHECK.failsToRead(2, "service a;socket s a ^51");
        CHECK.failsToRead(1, "service a;socket s a ^-1");
        CHECK.failsToRead(1, "service a;socket s a^");
        CHECK.failsToRead(1, "service a;socket s a ^b");
        CHECK.failsToRead(1, "service a;socket s a 5 ^5");
        CHECK.failsToRead(1, "service a;socket s a 5 ^startup 5");
    }

    /** Section 2: "target NAME - a target". */
    private static void target() {
        CHECK.reads("target a", 1);
        CHECK.failsToRead(1, "target a ^startup 5");
        CHECK.failsToRead(1, "target a ^5");
        CHECK.failsToRead(1, "target^");
    }

    /** Section 2: "NAME RELATION NAME - a relation of two units that were described before". */
    private static void relationOfUnits() {
        CHECK.reads("target a;target b;a after b", 2);
        CHECK.failsToRead(1, "target b;^a after b;target a");
        CHECK.failsToRead(3, "target a;a after ^b;target b");
        CHECK.failsToRead(1, "^a after b");
        CHECK.failsToRead(1, "target a;target b;a after b ^b");
    }

    /** Section 2: "RELATION is one of the words requires, wants, binds, partof, conflicts, after and before". */
    private static void relationWords() {
        String[] words = {"requires", "wants", "binds", "partof", "conflicts", "after"};
        for (int relation = 0; relation < 6; relation++) {
            ServiceManager manager = Check.made("target a;target b;a " + words[relation] + " b");
            for (int other = 0; other < 6; other++) {
                CHECK.due("a " + words[relation] + " b: related(a, " + other + ")", manager.related(0, other), other == relation ? 2 : 0);
                CHECK.due("a " + words[relation] + " b: related(b, " + other + ")", manager.related(1, other), 0);
            }
            CHECK.failsToRead(1, "target a;target b;a ^" + words[relation] + "s b");
        }
        CHECK.failsToRead(1, "target a;target b;a ^b");
        CHECK.failsToRead(1, "target a;target b;a ^5");
        CHECK.failsToRead(1, "target a;target b;a ^;");
        CHECK.failsToRead(1, "target a;target b;a^");
    }

    /** Section 2: ""a before b" that b is ordered after a". */
    private static void before() {
        ServiceManager manager = Check.made("target a;target b;a before b");
        CHECK.due("a before b: related(a, 5)", manager.related(0, 5), 0);
        CHECK.due("a before b: related(b, 5)", manager.related(1, 5), 1);
    }

    /** Section 2: "A unit may not have a relation to itself". */
    private static void noRelationToItself() {
        for (String word : new String[] {"requires", "wants", "binds", "partof", "conflicts", "after", "before"}) {
            CHECK.failsToRead(3, "target a;target b;a " + word + " ^a");
        }
    }

    /** Section 2: "Saying a relation again changes nothing". */
    private static void relationAgain() {
        for (String word : new String[] {"requires", "wants", "binds", "partof", "conflicts", "after", "before"}) {
            String said = ";a " + word + " b";
            CHECK.due("a " + word + " b, said three times", Check.everything(Check.made("target a;target b" + said + said + said)),
                Check.everything(Check.made("target a;target b" + said)));
        }
        CHECK.due("after, said as before", Check.made("target a;target b;b after a;a before b").related(1, 5), 1);
    }

    /** Section 2: "If a property is repeated, the last one counts". */
    private static void repeatedProperty() {
        ServiceManager manager = Check.made("service a startup 9 stopping 9 run 9 exit 9 fails 9 restart always delay 9 limit 9 9 idle 9"
            + " startup 1 stopping 2 run 3 exit 4 fails 5 restart failure delay 6 limit 7 8 idle 0");
        int[] last = {1, 2, 3, 4, 5, 1, 6, 7, 8, 0};
        for (int what = 0; what < 10; what++) {
            CHECK.due("the last one of property(0, " + what + ")", manager.property(0, what), last[what]);
        }
        CHECK.failsToRead(2, "service a startup ^101 startup 5");
        CHECK.failsToRead(2, "service a startup 5 startup ^101");
    }

    // ---- section 2: words and bytes

    /** Section 2: "NAME is a word of 1 to 8 letters". */
    private static void lengthOfName() {
        CHECK.reads("service a;socket b a 5;target c", 3);
        CHECK.reads("service abcdefgh;socket bcdefghi abcdefgh 5;target cdefghij;abcdefgh after cdefghij", 3);
        for (String kind : new String[] {"service", "socket", "target"}) {
            CHECK.failsToRead(3, kind + " ^abcdefghi");
            CHECK.failsToRead(1, kind + "^");
        }
    }

    /** Section 2: "which is none of the words service, socket and target". */
    private static void nameIsNoKeyword() {
        for (String kind : new String[] {"service", "socket", "target"}) {
            for (String name : new String[] {"service", "socket", "target"}) {
                CHECK.failsToRead(3, kind + " ^" + name);
            }
        }
        CHECK.reads("target services;target socke;target argets;target startup;target never;target requires;target before", 7);
    }

    /** Section 2: "the names of units differ". */
    private static void namesDiffer() {
        for (String kind : new String[] {"service", "socket", "target"}) {
            CHECK.failsToRead(3, "service a;" + kind + " ^a");
            CHECK.failsToRead(3, "target abcdefgh;" + kind + " ^abcdefgh");
        }
        CHECK.reads("target a;target aa;target aaa;target aaaaaaaa;target aaaaaaab;target baaaaaaa", 6);
    }

    /** Section 2: "A word is a maximal run of the letters a to z". */
    private static void word() {
        CHECK.reads("target az", 1);
        for (char beside : new char[] {'a' - 1, 'z' + 1, 'A', 'Z', 128, 'a' + 128, 255, 1}) {
            CHECK.failsToRead(1, "target ^" + beside);
            CHECK.failsToRead(1, "target a^" + beside);
            CHECK.failsToRead(1, "target a^" + beside + "b");
        }
        CHECK.failsToRead(1, "^servicea");
        CHECK.failsToRead(1, "^targe ta");
    }

    private static String[] nearly(String word) {
        String middle = word.substring(0, word.length() - 1);
        return new String[] {"q" + word.substring(1), middle + "q", middle, word + "s"};
    }

    /** Section 2: "one of the words": a word with another first or last letter, one less or one more is none of them. */
    private static void nearlyWords() {
        for (String word : new String[] {"startup", "stopping", "run", "exit", "fails", "restart", "delay", "limit", "idle"}) {
            for (String near : nearly(word)) {
                CHECK.failsToRead(1, "service a ^" + near + " 5");
            }
        }
        for (String word : new String[] {"requires", "wants", "binds", "partof", "conflicts", "after", "before"}) {
            for (String near : nearly(word)) {
                CHECK.failsToRead(1, "target a;target b;a ^" + near + " b");
            }
        }
        for (String word : new String[] {"never", "failure", "always"}) {
            for (String near : nearly(word)) {
                CHECK.failsToRead(1, "service a restart ^" + near);
            }
        }
        for (String word : new String[] {"service", "socket", "target"}) {
            for (String near : nearly(word)) {
                CHECK.failsToRead(1, "^" + near + " a");
                CHECK.reads("target " + near, 1);
            }
        }
    }

    /** Section 2: "a number a maximal run of digits". */
    private static void number() {
        CHECK.due("all digits", Check.made("service a idle 789 run 456 startup 12 exit 30").property(0, 9), 789);
        CHECK.due("0 and 9", Check.made("service a run 90").property(0, 2), 90);
        for (char beside : new char[] {'0' - 1, '9' + 1, '+', '.'}) {
            CHECK.failsToRead(1, "service a startup ^" + beside);
            CHECK.failsToRead(1, "service a startup 1^" + beside);
        }
        CHECK.failsToRead(2, "service a limit ^12 3");
        CHECK.due("a number of many digits", Check.made("service a startup 00000000000000000000000000000000000007").property(0, 0), 7);
        CHECK.failsToRead(2, "service a startup ^000000000000000000000000000000000000000101");
    }

    /** Section 2: a number is not wrapped round: those that are 5 modulo 2^32 and 2^64 are out of range, too. */
    private static void greatNumbers() {
        CHECK.failsToRead(2, "service a startup ^4294967301");
        CHECK.failsToRead(2, "service a startup ^18446744073709551621");
        CHECK.failsToRead(2, "service a startup ^2147483648");
        StringBuilder nines = new StringBuilder("service a startup ^");
        for (int digit = 0; digit < 780; digit++) {
            nines.append('9');
        }
        CHECK.failsToRead(2, nines.toString());
    }

    /** Section 2: "Spaces (byte 32) may stand before words, numbers and semicolons, and at the end". */
    private static void spaces() {
        CHECK.reads("   service   a   startup   5   ;   target   b   ;   a   after   b   ", 2);
        CHECK.reads("service a;socket s a5;target b", 3);
        CHECK.due("no spaces", Check.made("service a startup5stopping7limit2 3idle4").property(0, 8), 3);
        for (char beside : new char[] {31, 33, 9, 10, 13, 160}) {
            CHECK.failsToRead(1, "^" + beside + "target a");
            CHECK.failsToRead(1, "target^" + beside + "a");
            CHECK.failsToRead(1, "target a^" + beside + ";target b");
            CHECK.failsToRead(1, "target a^" + beside);
            CHECK.failsToRead(1, "service a startup^" + beside + "5");
        }
    }

    // ---- section 2: errors

    /** Section 2: "The text is read from left to right; the first error ends it". */
    private static void firstError() {
        CHECK.failsToRead(1, "service a ^bogus 101;target a");
        CHECK.failsToRead(2, "service a startup ^101;target a");
        CHECK.failsToRead(3, "service a;target ^a;service b startup 101");
        CHECK.failsToRead(4, Check.targets(16, ";^service q startup 101;bogus"));
        CHECK.failsToRead(2, "service a limit ^0 bogus");
        CHECK.failsToRead(3, "service a;socket s ^b 0");
        CHECK.failsToRead(1, "target a;^b requires b");
        CHECK.failsToRead(1, "target a;a ^requiress b");
    }

    /** Section 2: "Error 1: a byte, word or number that cannot stand at its place (position: its first byte)". */
    private static void errorOfPlace() {
        CHECK.failsToRead(1, "^5");
        CHECK.failsToRead(1, "^!");
        CHECK.failsToRead(1, "service ^17 startup 5");
        CHECK.failsToRead(1, "service   ^;");
        CHECK.failsToRead(1, "service a   ^17");
        CHECK.failsToRead(1, "service a   ^abc");
        CHECK.failsToRead(1, "service a startup   ^abc");
        CHECK.failsToRead(1, "service a startup 5   ^17");
        CHECK.failsToRead(1, "service a;socket ^17 a 5");
        CHECK.failsToRead(1, "service a;socket s ^17 5");
        CHECK.failsToRead(1, "service a;socket s a ^;");
        CHECK.failsToRead(1, "target a;target b;a after ^17");
        CHECK.failsToRead(1, "target a;target b;a after ^;");
    }

    /** Section 2: "or the text ends too early (position: its length)". */
    private static void endsTooEarly() {
        String[] beginnings = {"", "service", "socket", "target", "service a;", "service a startup", "service a stopping", "service a run",
            "service a exit", "service a fails", "service a restart", "service a delay", "service a limit", "service a limit 5",
            "service a idle", "service a;socket s", "service a;socket s a", "service a;a", "service a;a after"};
        for (String beginning : beginnings) {
            CHECK.failsToRead(1, beginning + "^");
            CHECK.failsToRead(1, beginning + "   ^");
        }
    }

    /** Section 2: error 1 is "also a word that is no keyword and not the name of a unit at the beginning of a statement". */
    private static void errorOfBeginning() {
        CHECK.failsToRead(1, "target a;^b after a");
        CHECK.failsToRead(1, "target a;^abcdefghi after a");
        CHECK.failsToRead(1, "target a;^aa after a");
        CHECK.failsToRead(1, "target ab;^a after ab");
        CHECK.failsToRead(1, "target a;^after a a");
        CHECK.failsToRead(1, "target a;^startup 5");
        CHECK.failsToRead(1, "^services a");
    }

    /** Section 2: "Error 2: a number out of its range (position: its first digit)". */
    private static void errorOfRange() {
        CHECK.failsToRead(2, "service a startup   ^0101 stopping 5");
        CHECK.failsToRead(2, "service a startup^101");
        CHECK.failsToRead(2, "service a;socket s a   ^051");
        CHECK.failsToRead(2, "service a;socket s a^000");
    }

    /** Section 2: "Error 3: where a name is required, a word of more than 8 letters". */
    private static void errorOfLongName() {
        CHECK.failsToRead(3, "service   ^abcdefghi");
        CHECK.failsToRead(3, "service a;socket ^abcdefghi a 5");
        CHECK.failsToRead(3, "service a;socket s ^abcdefghi 5");
        CHECK.failsToRead(3, "target ^abcdefghijklmnopqrstuvwxyz");
        CHECK.failsToRead(3, "target abcdefgh;target b;b after ^abcdefghi");
    }

    /** Section 2: error 3 is "a name of a new unit that a unit has already or that is one of the three words". */
    private static void errorOfNewName() {
        CHECK.failsToRead(3, "target a;service   ^a");
        CHECK.failsToRead(3, "service a;socket ^a a 5");
        CHECK.failsToRead(3, "service ^service");
        CHECK.failsToRead(3, "socket ^service service 5");
        CHECK.failsToRead(3, "target   ^socket");
    }

    /** Section 2: error 3 is "no name of a unit (of a service in socket)". */
    private static void errorOfNoUnit() {
        CHECK.failsToRead(3, "target a;a after   ^b");
        CHECK.failsToRead(3, "target a;a after ^service");
        CHECK.failsToRead(3, "target a;a after ^after");
        CHECK.failsToRead(3, "service a;socket s ^b 5");
        CHECK.failsToRead(3, "service a;target b;socket s ^b 5");
        CHECK.failsToRead(3, "socket s ^target 5");
    }

    /** Section 2: error 3 is "or the name of the same unit in a relation (position: its first byte)". */
    private static void errorOfSameUnit() {
        CHECK.failsToRead(3, "target abc;abc after   ^abc");
        CHECK.failsToRead(3, "service a;socket s a 5;s requires ^s");
    }

    /** Section 1 and 2: "at most 16 units"; "Error 4: a 17th unit (position of its keyword)". */
    private static void errorOfSeventeenth() {
        CHECK.reads(Check.targets(15, ""), 15);
        CHECK.reads(Check.targets(16, ""), 16);
        CHECK.reads(Check.targets(16, ";a after p"), 16);
        CHECK.failsToRead(4, Check.targets(16, ";   ^target q"));
        CHECK.failsToRead(4, Check.targets(16, ";^service q"));
        CHECK.failsToRead(4, Check.targets(16, ";^socket q a 5"));
        CHECK.failsToRead(4, Check.targets(16, ";a after p;^target q;target r"));
        CHECK.failsToRead(4, Check.targets(16, ";^target"));
        CHECK.failsToRead(4, Check.targets(16, ";^target a"));
        CHECK.failsToRead(1, Check.targets(16, ";^q"));
    }

    // ---- promise 2: append

    /** Promise 2: "the 8 bytes of a number, the most significant byte first". */
    private static void mostSignificantFirst() {
        ServiceManager manager = new ServiceManager();
        CHECK.due("append() of 8 bytes", manager.append(0x7461726765742061L), 8);
        CHECK.due("append() of 8 more", manager.append(0x6263646566676820L), 16);
        CHECK.due("load()", manager.load(), 1);
        for (int index = 0; index < 8; index++) {
            CHECK.due("the letter " + index, manager.nameLetter(0, index), 'a' + index);
        }
    }

    /** Promise 2: "where bytes that are 0 are left out". */
    private static void zerosAreLeftOut() {
        ServiceManager manager = new ServiceManager();
        CHECK.due("append(0) to an empty buffer", manager.append(0), 0);
        CHECK.due("append(1)", manager.append(1), 1);
        CHECK.due("append() of the most significant byte alone", manager.append(Long.MIN_VALUE), 2);
        CHECK.due("append() of four bytes of eight", manager.append(0x0001000100010001L), 6);
        CHECK.due("append(255)", manager.append(255), 7);
        CHECK.due("append(256)", manager.append(256), 8);
        CHECK.due("append(-1)", manager.append(-1), 16);
        CHECK.due("append(0) to a buffer", manager.append(0), 16);
        CHECK.due("load() of bytes that are no letters", manager.load(), -100);
    }

    private static ServiceManager filled(int bytes) {
        ServiceManager manager = new ServiceManager();
        Check.write(manager, "target a");
        for (int length = 8; length < bytes; length++) {
            manager.append(' ');
        }
        return manager;
    }

    /** Promise 2: "FULL if it would exceed 800". */
    private static void bufferLength() {
        CHECK.due("a byte to 799", filled(799).append(' '), 800);
        CHECK.due("a byte to 800", filled(800).append(' '), FULL);
        CHECK.due("8 bytes to 792", filled(792).append(-1), 800);
        CHECK.due("8 bytes to 793", filled(793).append(-1), FULL);
        CHECK.due("7 bytes of 8 to 793", filled(793).append(0x2020202000202020L), 800);
        CHECK.due("2 bytes to 799", filled(799).append(0x2020), FULL);
        CHECK.due("2 bytes to 798", filled(798).append(0x2020), 800);
        CHECK.due("no byte to 800", filled(800).append(0), 800);
    }

    private static String padded(String text) {
        StringBuilder padded = new StringBuilder();
        for (int spaces = text.length(); spaces < 800; spaces++) {
            padded.append(' ');
        }
        return padded + text;
    }

    /** Promises 2 and 3: a text of 800 bytes may end with a name, a word or a number at its last byte. */
    private static void lastByteOfFullBuffer() {
        CHECK.reads(padded("target a"), 1);
        CHECK.reads(padded("target abcdefgh"), 1);
        CHECK.reads(padded("target abcdefgh;target b;b after abcdefgh"), 2);
        CHECK.reads(padded("service a;socket s a 50"), 2);
        CHECK.reads(padded("service a restart always"), 1);
        CHECK.reads(padded("service a startup 100"), 1);
        CHECK.reads(padded("target a;target b;a before b"), 2);
        CHECK.failsToRead(2, padded("service a startup 101").replace(" 101", " ^101"));
        CHECK.failsToRead(3, padded("target a;target b").replace("target b", "target ^a"));
        CHECK.failsToRead(3, padded("target abcdefghi").replace("target ", "target ^"));
        CHECK.failsToRead(1, padded("target a;a after") + "^");
        CHECK.failsToRead(1, padded("target a;target") + "^");
        CHECK.failsToRead(1, padded("service a startup") + "^");
    }

    /** Promise 2 and section 6: a call that answers FULL changes nothing: not a part of its bytes is appended. */
    private static void fullBufferChangesNothing() {
        ServiceManager manager = filled(796);
        CHECK.refused("append() of 5 bytes to 796", manager, () -> manager.append(0x3B3B3B3B3BL), FULL);
        CHECK.due("append(0) then", manager.append(0), 796);
        CHECK.refused("append() of 8 bytes to 796", manager, () -> manager.append(-1), FULL);
        CHECK.due("append() of 4 bytes then", manager.append(0x20202020L), 800);
        CHECK.refused("append() of a byte to 800", manager, () -> manager.append(1), FULL);
        CHECK.due("load() of the full buffer", manager.load(), 1);
    }

    // ---- promises 3 and 4: load and loadError

    /** Promise 3: "Returns the number of units". */
    private static void answersNumberOfUnits() {
        for (int count = 1; count <= 16; count++) {
            CHECK.reads(Check.targets(count, ""), count);
        }
    }

    /** Promise 3: "-100 minus the position of the error if the text has one". */
    private static void answersPosition() {
        ServiceManager manager = new ServiceManager();
        CHECK.due("an error at 0", manager.load(), -100);
        manager.append('t');
        CHECK.due("another error at 0", manager.load(), -100);
        Check.write(manager, " ;");
        CHECK.due("an error at 1", manager.load(), -101);
        ServiceManager last = filled(799);
        last.append('!');
        CHECK.due("an error at 799", last.load(), -899);
        ServiceManager end = filled(799);
        end.append(';');
        CHECK.due("a text of 800 bytes that ends too early", end.load(), -900);
    }

    /** Promise 3: "The buffer is emptied, also on an error". */
    private static void loadEmptiesBuffer() {
        ServiceManager manager = filled(800);
        CHECK.due("load() of 800 bytes", manager.load(), 1);
        CHECK.due("append(0) after it", manager.append(0), 0);
        Check.write(manager, "target b;oops");
        CHECK.due("load() with an error", manager.load(), -109);
        CHECK.due("append(0) after an error", manager.append(0), 0);
        CHECK.due("load() of nothing", manager.load(), -100);
        CHECK.due("append(0) after that", manager.append(0), 0);
    }

    /** An object with something of everything. */
    private static ServiceManager lived() {
        ServiceManager manager = Check.made("service a fails 1 restart always delay 9;socket s a 2;service b startup 9;target t;t conflicts s");
        manager.start(0, false);
        manager.start(1, false);
        manager.connect(1, 5);
        manager.start(2, false);
        manager.setMasked(3, true);
        manager.advance(5);
        return manager;
    }

    /** Promise 3: "and begins anew at time 0: all units are inactive, ... not masked and without jobs; the log is empty". */
    private static void beginsAnew() {
        String text = "service a;socket s a 2;service b;target t";
        ServiceManager manager = lived();
        Check.reload(manager, text);
        CHECK.due("everything after load()", Check.whole(manager), Check.whole(Check.made(text)));
        CHECK.due("time()", manager.time(), 0);
        CHECK.due("inState(0)", manager.inState(0), 0b1111);
        CHECK.due("queueLength()", manager.queueLength(), 0);
        CHECK.due("logSize()", manager.logSize(), 0);
        for (int unit = 0; unit < 4; unit++) {
            CHECK.due("resultOf()", manager.resultOf(unit), 0);
            CHECK.due("exitCode()", manager.exitCode(unit), 0);
            CHECK.due("outcomeOf()", manager.outcomeOf(unit), NONE);
            CHECK.due("setMasked()", manager.setMasked(unit, false), false);
            CHECK.due("begins()", manager.begins(unit), 0);
            CHECK.due("restarts()", manager.restarts(unit), 0);
            CHECK.due("since()", manager.since(unit), 0);
        }
        CHECK.due("accepted()", manager.accepted(1), 0);
        CHECK.due("lost()", manager.lost(1), 0);
        CHECK.due("related(t, conflicts)", manager.related(3, 4), 0);
    }

    /** An object with a full queue, with restarts by a policy, and with accepted connections. */
    private static ServiceManager busy() {
        ServiceManager manager = Check.made("service a run 2 restart always;socket s a 9;service b stopping 90;service c;service d;b after c;b after d;"
            + "service e startup 90;target f;f after e;target g;g after e");
        manager.advance(3);
        for (int unit = 0; unit < 7; unit++) {
            manager.start(unit, false);
        }
        manager.connect(1, 4);
        manager.advance(3);
        manager.stop(2, false);
        manager.stop(3, false);
        manager.restart(4, false);
        manager.restart(7, false);
        CHECK.due("the jobs of a busy object", Check.jobs(manager), "0/0 0/0 2*/0 2/0 3/0 1*/-1 1/-1 3/-1");
        CHECK.due("its restarts", manager.restarts(0), 1);
        CHECK.due("its connections", manager.accepted(1), 4);
        return manager;
    }

    /** Promise 3: "without jobs": whichever jobs there were before; and nothing is left of any number. */
    private static void nothingIsLeft() {
        String text = "service a run 2 restart always;socket s a 9;target b;target c;target d;target e;target f;target g;b requires a";
        ServiceManager manager = busy();
        Check.reload(manager, text);
        CHECK.due("everything after load()", Check.whole(manager), Check.whole(Check.made(text)));
        CHECK.due("queueLength()", manager.queueLength(), 0);
        manager.start(2, false);
        CHECK.due("planDepth() without an order", manager.planDepth(0, 2), 1);
        manager.advance(7);
        ServiceManager same = Check.made(text);
        same.start(2, false);
        same.advance(7);
        CHECK.due("everything after a while", Check.everything(manager), Check.everything(same));
    }

    /** Promise 3: no relation of the text before is left. */
    private static void noRelationIsLeft() {
        StringBuilder relations = new StringBuilder();
        for (String word : new String[] {"requires", "wants", "binds", "partof", "conflicts", "after"}) {
            for (String pair : new String[] {"a b", "b c", "c a"}) {
                relations.append(';').append(pair.charAt(0)).append(' ').append(word).append(' ').append(pair.charAt(2));
            }
        }
        ServiceManager manager = Check.made(Check.targets(3, relations.toString()));
        Check.reload(manager, Check.targets(3, ""));
        for (int unit = 0; unit < 3; unit++) {
            for (int relation = 0; relation < 6; relation++) {
                CHECK.due("related(" + unit + ", " + relation + ")", manager.related(unit, relation), 0);
            }
            CHECK.due("allNeeded()", manager.allNeeded(unit), 0);
            CHECK.due("allStopped()", manager.allStopped(unit), 1 << unit);
            CHECK.due("start()", manager.start(unit, false), 1);
        }
        CHECK.due("orderingCircle()", manager.orderingCircle(), 0);
        CHECK.due("all are active", manager.inState(2), 0b111);
        manager = Check.made("target a;target b;b requires a;b after a");
        manager.start(1, false);
        CHECK.due("planDepth() with an order", manager.planDepth(0, 2), 2);
        Check.reload(manager, "target a;target b;b requires a");
        manager.start(1, false);
        CHECK.due("planDepth() without it", manager.planDepth(0, 2), 1);
    }

    /** Promise 3: the same text again begins anew, too: the activations for fails are forgotten. */
    private static void sameTextAgain() {
        ServiceManager manager = Check.made("service a fails 1 limit 2 1000");
        manager.start(0, false);
        manager.start(0, false);
        CHECK.due("the second activation", manager.stateOf(0), 2);
        Check.reload(manager, "service a fails 1 limit 2 1000");
        CHECK.due("recentBegins() after load()", manager.recentBegins(0), 0);
        manager.start(0, false);
        CHECK.due("the first activation again", manager.stateOf(0), 4);
        manager.start(0, false);
        CHECK.due("the second one again", manager.stateOf(0), 2);
    }

    /** Promise 3: "if the text has one, and then nothing but the buffer changes". */
    private static void errorChangesNothing() {
        for (String text : new String[] {"", "target x;oops", "service x startup 101", "target x;target x", Check.targets(16, ";target q")}) {
            ServiceManager manager = lived();
            String before = Check.everything(manager);
            Check.write(manager, text);
            CHECK.due("an error in \"" + text + "\"", manager.load() <= -100, true);
            CHECK.due("everything after \"" + text + "\"", Check.everything(manager), before);
            ServiceManager same = lived();
            manager.advance(20);
            same.advance(20);
            CHECK.due("it goes on as without it", Check.everything(manager), Check.everything(same));
        }
        ServiceManager empty = new ServiceManager();
        CHECK.due("an error in an empty object", empty.load(), -100);
        CHECK.due("unitCount() after it", empty.unitCount(), 0);
    }

    /** Promise 3: "The snapshots stay". */
    private static void loadLeavesSnapshots() {
        ServiceManager manager = lived();
        String before = Check.everything(manager);
        manager.saveSnapshot(0);
        Check.reload(manager, "target x");
        CHECK.due("the other slot is empty", manager.restoreSnapshot(1), NONE);
        Check.write(manager, "oops");
        manager.load();
        CHECK.due("restoreSnapshot() after load()", manager.restoreSnapshot(0), 5);
        CHECK.due("everything of the snapshot", Check.everything(manager), before);
    }

    /** Promise 4: "Returns 1 to 4 (section 2); 0 if the text had no error or there was no such call". */
    private static void loadErrors() {
        ServiceManager manager = new ServiceManager();
        CHECK.due("loadError() without a load()", manager.loadError(), 0);
        String[] texts = {"oops", "service a startup 101", "target target", Check.targets(17, "")};
        for (int error = 1; error <= 4; error++) {
            Check.write(manager, texts[error - 1]);
            CHECK.due("loadError() before the load()", manager.loadError(), error - 1);
            manager.load();
            CHECK.due("loadError() of " + texts[error - 1], manager.loadError(), error);
            manager.find();
            CHECK.due("loadError() after find()", manager.loadError(), error);
        }
        Check.write(manager, "target a");
        manager.load();
        CHECK.due("loadError() of a good text", manager.loadError(), 0);
    }

    // ---- promise 5: find

    /** Promise 5: "Finds a unit by its name, which is the whole input buffer". */
    private static void findsWholeBuffer() {
        ServiceManager manager = Check.made(Check.targets(15, ";target abcdefgh"));
        CHECK.due("find the first unit", Check.find(manager, "a"), 0);
        CHECK.due("find the last unit", Check.find(manager, "abcdefgh"), 15);
        CHECK.due("find the last but one", Check.find(manager, "o"), 14);
    }

    /** Promise 5: "NONE if no unit has exactly this name". */
    private static void findsExactName() {
        ServiceManager manager = Check.made("target a;target abcdefgh");
        String[] others = {"", "b", "aa", "abcdefg", "abcdefghi", "bcdefgh", " a", "a ", "A", "a;", "target a", "target"};
        for (String other : others) {
            CHECK.due("find \"" + other + "\"", Check.find(manager, other), NONE);
        }
        CHECK.due("find in an empty object", Check.find(new ServiceManager(), "a"), NONE);
        CHECK.due("find nothing in an empty object", new ServiceManager().find(), NONE);
        CHECK.due("find a full buffer", filled(800).find(), NONE);
    }

    /** Promise 5 and section 6: "the buffer is emptied", "load() and find() empty the buffer" also with an error code. */
    private static void findEmptiesBuffer() {
        ServiceManager manager = Check.made("target a");
        manager.append('a');
        CHECK.due("find()", manager.find(), 0);
        CHECK.due("append(0) after it", manager.append(0), 0);
        manager.append('b');
        CHECK.due("find() of no unit", manager.find(), NONE);
        CHECK.due("append(0) after NONE", manager.append(0), 0);
        manager.append('a');
        CHECK.due("find() after NONE", manager.find(), 0);
    }

    private static void statements() {
        oneOrMoreStatements();
        manyStatements();
        startup();
        stopping();
        run();
        exit();
        fails();
        policy();
        delay();
        limit();
        idle();
        socketOfService();
        backlog();
        target();
        relationOfUnits();
        relationWords();
        before();
        noRelationToItself();
        relationAgain();
        repeatedProperty();
    }

    private static void wordsAndErrors() {
        lengthOfName();
        nameIsNoKeyword();
        namesDiffer();
        word();
        nearlyWords();
        number();
        greatNumbers();
        spaces();
        firstError();
        errorOfPlace();
        endsTooEarly();
        errorOfBeginning();
        errorOfRange();
        errorOfLongName();
        errorOfNewName();
        errorOfNoUnit();
        errorOfSameUnit();
        errorOfSeventeenth();
    }

    private static void calls() {
        mostSignificantFirst();
        zerosAreLeftOut();
        bufferLength();
        lastByteOfFullBuffer();
        fullBufferChangesNothing();
        answersNumberOfUnits();
        answersPosition();
        loadEmptiesBuffer();
        beginsAnew();
        nothingIsLeft();
        noRelationIsLeft();
        sameTextAgain();
        errorChangesNothing();
        loadLeavesSnapshots();
        loadErrors();
        findsWholeBuffer();
        findsExactName();
        findEmptiesBuffer();
    }

    public static void main(String[] args) {
        statements();
        wordsAndErrors();
        calls();
        CHECK.finish();
    }
}
