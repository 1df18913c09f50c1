/** Promises 6 to 11: what a configuration says of its units. */
public final class UnitsTest {

    private static final int NONE = ServiceManager.NONE;
    private static final Check CHECK = new Check();

    private static void properties(ServiceManager manager, int unit, int... due) {
        for (int what = 0; what < 10; what++) {
            CHECK.due("property(" + unit + ", " + what + ")", manager.property(unit, what), due[what]);
        }
    }

    private static void kindsAndNames() {
        ServiceManager manager = Check.made("service a; socket bc a 5; target abcdefgh; service z; socket d z 50");
        CHECK.due("unitCount()", manager.unitCount(), 5);
        int[] kinds = {0, 1, 2, 0, 1};
        int[] services = {NONE, 0, NONE, NONE, 3};
        String[] names = {"a", "bc", "abcdefgh", "z", "d"};
        for (int unit = 0; unit < 5; unit++) {
            CHECK.due("kindOf(" + unit + ")", manager.kindOf(unit), kinds[unit]);
            CHECK.due("serviceOf(" + unit + ")", manager.serviceOf(unit), services[unit]);
            for (int index = 0; index < names[unit].length(); index++) {
                CHECK.due("nameLetter(" + unit + ", " + index + ")", manager.nameLetter(unit, index), names[unit].charAt(index));
            }
            CHECK.due("nameLetter past the name", manager.nameLetter(unit, names[unit].length()), NONE);
        }
        CHECK.due("nameLetter(2, -1)", manager.nameLetter(2, -1), NONE);
        CHECK.due("nameLetter(0, 1)", manager.nameLetter(0, 1), NONE);
        CHECK.due("nameLetter(0, MAX)", manager.nameLetter(0, Integer.MAX_VALUE), NONE);
        CHECK.due("nameLetter(2, MIN)", manager.nameLetter(2, Integer.MIN_VALUE), NONE);
        CHECK.due("unitCount() of a new object", new ServiceManager().unitCount(), 0);
    }

    private static void propertiesOfServices() {
        ServiceManager manager = Check.made("service a; service b startup 1 stopping 2 run 3 exit 4 fails 5 restart failure delay 6"
            + " limit 7 8 idle 9; service c idle 1 idle 2 limit 1 2 limit 3 4 startup 9 startup 0 restart always restart never;"
            + " service d restart always; service e startup 100 stopping 100 run 1000 exit 255 fails 9 delay 100 limit 9 1000 idle 1000");
        properties(manager, 0, 0, 0, 0, 0, 0, 0, 1, 5, 10, 0);
        properties(manager, 1, 1, 2, 3, 4, 5, 1, 6, 7, 8, 9);
        properties(manager, 2, 0, 0, 0, 0, 0, 0, 1, 3, 4, 2);
        CHECK.due("the policy always", manager.property(3, 5), 2);
        properties(manager, 4, 100, 100, 1000, 255, 9, 0, 100, 9, 1000, 1000);
        Check.reload(manager, "service a; socket b a 7; target c; service d");
        properties(manager, 0, 0, 0, 0, 0, 0, 0, 1, 5, 10, 0);
        properties(manager, 1, NONE, NONE, NONE, NONE, NONE, NONE, NONE, NONE, NONE, NONE);
        properties(manager, 2, NONE, NONE, NONE, NONE, NONE, NONE, NONE, NONE, NONE, NONE);
        properties(manager, 3, 0, 0, 0, 0, 0, 0, 1, 5, 10, 0);
    }

    private static void relations() {
        ServiceManager manager = Check.made("service a; target b; socket c a 1; service d; a requires b; a wants c; a binds d;"
            + " b partof a; b conflicts c; b after d; a before d; d before c; a requires d; a requires b; c after d");
        int[][] due = {{0b1010, 0b0100, 0b1000, 0, 0, 0}, {0, 0, 0, 0b0001, 0b0100, 0b1000}, {0, 0, 0, 0, 0, 0b1000},
            {0, 0, 0, 0, 0, 0b0001}};
        for (int unit = 0; unit < 4; unit++) {
            for (int relation = 0; relation < 6; relation++) {
                CHECK.due("related(" + unit + ", " + relation + ")", manager.related(unit, relation), due[unit][relation]);
            }
        }
        Check.reload(manager, "service a; target b; socket c a 1; service d");
        for (int unit = 0; unit < 4; unit++) {
            for (int relation = 0; relation < 6; relation++) {
                CHECK.due("related() after another text", manager.related(unit, relation), 0);
            }
        }
    }

    private static void greatestUnit() {
        StringBuilder text = new StringBuilder("target a");
        for (int unit = 1; unit < 16; unit++) {
            text.append(";target ").append((char) ('a' + unit)).append(";a wants ").append((char) ('a' + unit));
        }
        ServiceManager manager = Check.made(text + ";p requires a");
        CHECK.due("unitCount() of 16 units", manager.unitCount(), 16);
        CHECK.due("related(0, 1) to 15 units", manager.related(0, 1), 0xFFFE);
        CHECK.due("related(15, 0)", manager.related(15, 0), 1);
        CHECK.due("kindOf(15)", manager.kindOf(15), 2);
        CHECK.due("nameLetter(15, 0)", manager.nameLetter(15, 0), 'p');
    }

    public static void main(String[] args) {
        kindsAndNames();
        propertiesOfServices();
        relations();
        greatestUnit();
        CHECK.finish();
    }
}
