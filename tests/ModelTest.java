import java.lang.reflect.InvocationTargetException;
import java.lang.reflect.Method;
import java.util.ArrayList;
import java.util.List;

/**
 * Runs of calls, drawn by a fixed rule, on the class and on the model: each answer must be the
 * same, and after each call everything that can be seen must be the same.
 */
public final class ModelTest {

    private static final String[] CHANGES = {"start", "start", "start", "stop", "stop", "restart", "restart", "cancel",
        "advance", "advance", "advance", "connect", "connect", "kill", "kill", "reset", "setMasked"};
    private static final String[] QUESTIONS = {"plan", "planDepth", "ticksUntilActive", "ticksUntilQuiet", "stateAfter",
        "damageOf", "weakest", "criticalTime", "isSound"};
    private static final String[] OF_A_UNIT = {"kindOf", "serviceOf", "jobOf", "isRunning", "precedingJobs", "outcomeOf",
        "stateOf", "resultOf", "exitCode", "since", "dueAt", "restarts", "begins", "recentBegins", "queued", "accepted",
        "lost", "allNeeded", "allStopped"};

    private final Draw draw;
    private ServiceManager real = new ServiceManager();
    private Model model = new Model();
    private final List<String> calls = new ArrayList<>();
    private String wrong = "";

    /** Numbers that are the same in every run of the test. */
    static final class Draw {
        private long seed;

        Draw(long seed) {
            this.seed = seed * 0x9E3779B97F4A7C15L + 77;
        }

        int below(int bound) {
            seed = seed * 6364136223846793005L + 1442695040888963407L;
            return (int) ((seed >>> 33) % bound);
        }

        boolean once(int in) {
            return below(in) == 0;
        }
    }

    private ModelTest(long seed) {
        draw = new Draw(seed);
    }

    private static Method method(Class<?> owner, String name) {
        for (Method method : owner.getMethods()) {
            if (method.getName().equals(name)) {
                return method;
            }
        }
        throw new IllegalStateException(name);
    }

    private static String answer(Object object, Method method, Object[] arguments) {
        try {
            return String.valueOf(method.invoke(object, arguments));
        } catch (InvocationTargetException exception) {
            return exception.getCause().getClass().getName();
        } catch (IllegalAccessException exception) {
            throw new IllegalStateException(exception);
        }
    }

    private String both(String name, Object... arguments) {
        String got = answer(real, method(ServiceManager.class, name), arguments);
        String due = answer(model, method(Model.class, name), arguments);
        if (!got.equals(due) && wrong.isEmpty()) {
            wrong = name + java.util.Arrays.toString(arguments) + " answered " + got + ", due is " + due;
        }
        return got;
    }

    private void note(String name, Object... arguments) {
        calls.add(name + java.util.Arrays.toString(arguments) + " -> " + both(name, arguments));
    }

    private void write(String text) {
        Check.write(real, text);
        for (int index = 0; index < text.length(); index++) {
            model.append(text.charAt(index));
        }
        calls.add(text);
    }

    private String property() {
        switch (draw.below(10)) {
            case 0: return "startup " + draw.below(5);
            case 1: return "stopping " + draw.below(5);
            case 2: return "run " + draw.below(9);
            case 3: return "exit " + draw.below(2);
            case 4: return "fails " + draw.below(4);
            case 5: return "restart " + new String[] {"never", "failure", "always"}[draw.below(3)];
            case 6: return "delay " + (1 + draw.below(4));
            case 7: return "limit " + (1 + draw.below(4)) + " " + (1 + draw.below(12));
            case 8: return "idle " + draw.below(9);
            default: return "restart always";
        }
    }

    private String configuration() {
        int count = 2 + draw.below(draw.once(3) ? 15 : 6);
        boolean slow = draw.once(2);
        StringBuilder text = new StringBuilder();
        List<Integer> services = new ArrayList<>();
        for (int unit = 0; unit < count; unit++) {
            String name = String.valueOf((char) ('a' + unit));
            text.append(unit == 0 ? "" : ";");
            int kind = services.isEmpty() ? 0 : draw.below(5);
            if (kind == 3) {
                char service = (char) ('a' + services.get(draw.below(services.size())));
                text.append("socket ").append(name).append(' ').append(service).append(' ').append(1 + draw.below(4));
            } else if (kind == 4) {
                text.append("target ").append(name);
            } else {
                services.add(unit);
                text.append("service ").append(name);
                if (slow) {
                    text.append(" startup ").append(draw.below(9)).append(" stopping ").append(draw.below(9));
                }
                int properties = draw.below(count > 8 || slow ? 3 : 6);
                for (int property = 0; property < properties; property++) {
                    text.append(' ').append(property());
                }
            }
        }
        int relations = draw.below(count * 3);
        for (int relation = 0; relation < relations && text.length() < 770; relation++) {
            relation(text, count);
        }
        return text.toString();
    }

    private void relation(StringBuilder text, int count) {
        String[] words = {"requires", "wants", "wants", "binds", "partof", "conflicts", "after", "after", "before"};
        int one = draw.below(count);
        int other = draw.below(count);
        if (one == other) {
            return;
        }
        String word = words[draw.below(words.length)];
        if (word.equals("after") && !draw.once(6) && one < other) {
            word = "before";
        }
        text.append(';').append((char) ('a' + one)).append(' ').append(word).append(' ').append((char) ('a' + other));
    }

    private int unit() {
        return draw.once(60) ? draw.below(40) - 12 : draw.below(Math.max(1, model.unitCount()));
    }

    /** A unit with a waiting job, a service that can be killed, or an active socket, if there is one. */
    private int fit(String call) {
        List<Integer> fit = new ArrayList<>();
        for (int unit = 0; unit < model.unitCount(); unit++) {
            int state = model.stateOf(unit);
            if (call.equals("cancel") && model.jobOf(unit) != 0 && !model.isRunning(unit)
                || call.equals("kill") && model.kindOf(unit) == 0 && (state == 1 || state == 2)
                || call.equals("connect") && model.kindOf(unit) == 1 && state == 2) {
                fit.add(unit);
            }
        }
        return fit.isEmpty() || draw.once(10) ? unit() : fit.get(draw.below(fit.size()));
    }

    /** A number of the range, now and then one of its ends or just beside it. */
    private int ranged(int least, int greatest, int usual) {
        if (!draw.once(25)) {
            return least + draw.below(usual - least + 1);
        }
        switch (draw.below(4)) {
            case 0: return least - 1;
            case 1: return least;
            case 2: return greatest;
            default: return greatest + 1;
        }
    }

    private void change() {
        String name = CHANGES[draw.below(CHANGES.length)];
        switch (name) {
            case "start", "stop", "restart" -> note(name, unit(), draw.once(2));
            case "advance" -> note(name, ranged(1, 1000, 6));
            case "connect" -> note(name, fit(name), ranged(1, 100, 5));
            case "kill" -> note(name, fit(name), ranged(0, 255, 1));
            case "cancel" -> note(name, fit(name));
            case "setMasked" -> note(name, unit(), draw.once(7));
            default -> note(name, unit());
        }
    }

    private void question() {
        String name = QUESTIONS[draw.below(QUESTIONS.length)];
        switch (name) {
            case "plan" -> both(name, unit(), ranged(1, 3, 3), ranged(0, 4, 4));
            case "planDepth" -> both(name, unit(), ranged(1, 3, 3));
            case "stateAfter" -> both(name, unit(), ranged(0, 1000, 20));
            case "damageOf" -> both(name, unit(), ranged(0, 200, 12));
            case "ticksUntilQuiet", "weakest", "isSound" -> both(name);
            default -> both(name, unit());
        }
    }

    private void compareAll() {
        int count = model.unitCount();
        for (String name : OF_A_UNIT) {
            Method ofReal = method(ServiceManager.class, name);
            Method ofModel = method(Model.class, name);
            for (int unit = 0; unit < count; unit++) {
                Object[] arguments = {unit};
                String got = answer(real, ofReal, arguments);
                String due = answer(model, ofModel, arguments);
                if (!got.equals(due) && wrong.isEmpty()) {
                    wrong = name + "(" + unit + ") answered " + got + ", due is " + due;
                }
            }
        }
        for (String name : new String[] {"unitCount", "time", "queueLength", "logSize", "loadError", "isSound"}) {
            both(name);
        }
        for (int index = 0; index < model.logSize() && wrong.isEmpty(); index++) {
            for (int what = 0; what < 3; what++) {
                if (real.logEntry(index, what) != model.logEntry(index, what)) {
                    wrong = "logEntry(" + index + ", " + what + ") answered " + real.logEntry(index, what) + ", due is "
                        + model.logEntry(index, what);
                }
            }
        }
    }

    private void compareText() {
        for (int unit = 0; unit < model.unitCount(); unit++) {
            for (int what = 0; what < 10; what++) {
                both("property", unit, what);
            }
            for (int relation = 0; relation < 6; relation++) {
                both("related", unit, relation);
            }
            for (int index = -1; index < 9; index++) {
                both("nameLetter", unit, index);
            }
        }
        both("orderingCircle");
    }

    private boolean life(int length) {
        write(configuration());
        note("load");
        compareText();
        for (int call = 0; call < length && wrong.isEmpty(); call++) {
            if (draw.once(40)) {
                note(draw.once(2) ? "saveSnapshot" : "restoreSnapshot", ranged(0, 1, 1));
            }
            change();
            compareAll();
            question();
            question();
        }
        return report();
    }

    /** Texts with a slip in them: a part left out, doubled, or changed. */
    private boolean texts() {
        String text = configuration();
        for (int round = 0; round < 30 && wrong.isEmpty(); round++) {
            StringBuilder slip = new StringBuilder(text);
            for (int slips = 1 + draw.below(2); slips > 0; slips--) {
                slip(slip);
            }
            if (slip.length() <= 800) {
                write(slip.toString());
                note("load");
                both("loadError");
                both("unitCount");
            }
        }
        compareText();
        return report();
    }

    private void slip(StringBuilder text) {
        String[] parts = {" ", ";", "a", "z", "0", "9", "99999999999", "1001", "service ", "socket ", "target ", ";service q",
            "requires", "partof ", "  ", "{", "A", ";socket q a 5", "always", "startup", "before", "abcdefghi"};
        int at = draw.below(text.length() + 1);
        switch (draw.below(4)) {
            case 0 -> text.insert(at, parts[draw.below(parts.length)]);
            case 1 -> text.delete(at, Math.min(text.length(), at + 1 + draw.below(4)));
            case 2 -> text.setLength(at);
            default -> text.replace(at, Math.min(text.length(), at + 1), parts[draw.below(parts.length)]);
        }
        if (text.length() == 0) {
            text.append("target a");
        }
    }

    private boolean report() {
        if (wrong.isEmpty()) {
            return true;
        }
        calls.forEach(System.out::println);
        System.out.println("then " + wrong);
        return false;
    }

    public static void main(String[] args) {
        int runs = args.length > 0 ? Integer.parseInt(args[0]) : 1500;
        int first = args.length > 1 ? Integer.parseInt(args[1]) : 0;
        for (int run = first; run < first + runs; run++) {
            ModelTest test = new ModelTest(run);
            if (!(run % 4 == 0 ? test.texts() : test.life(60))) {
                System.out.println("run " + run + " is not as due");
                System.exit(1);
            }
        }
        System.out.println("all answers are as due");
    }
}
