import java.io.IOException;
import java.nio.file.Files;
import java.nio.file.Path;
import java.util.ArrayList;
import java.util.List;
import java.util.Map;
import java.util.regex.Matcher;
import java.util.regex.Pattern;

/** README.md: its example is the one that is run here, and what it says of the answers is so. */
public final class ReadmeTest {

    private static Map<String, Integer> example() {
        String text = "service db startup 3; service web restart failure delay 2;"
            + "socket http web 10; web requires db; web after db";
        ServiceManager manager = new ServiceManager();
        for (int index = 0; index < text.length(); index++) {
            manager.append(text.charAt(index));
        }
        int units = manager.load();
        int db = 0;
        int web = 1;
        int http = 2;
        int jobs = manager.start(web, false);
        int first = manager.inState(1);
        int waiting = manager.precedingJobs(web);
        int wait = manager.ticksUntilActive(web);
        int time = manager.advance(3);
        int state = manager.stateOf(web);
        int opened = manager.start(http, false);
        int taken = manager.connect(http, 4);
        int killed = manager.kill(web, 1);
        int due = manager.dueAt(web);
        int end = manager.stateAfter(web, 2);
        // what find() answers is what the example says of the numbers of units
        if (Check.find(manager, "db") != db || Check.find(manager, "web") != web || Check.find(manager, "http") != http) {
            throw new IllegalStateException("the units of the example have other numbers");
        }
        return Map.ofEntries(Map.entry("units", units), Map.entry("jobs", jobs), Map.entry("first", first),
            Map.entry("waiting", waiting), Map.entry("wait", wait), Map.entry("time", time), Map.entry("state", state),
            Map.entry("opened", opened), Map.entry("taken", taken), Map.entry("killed", killed), Map.entry("due", due),
            Map.entry("end", end));
    }

    /** The lines of the first part of a page that is marked as Java. */
    private static List<String> javaOf(List<String> page) {
        List<String> lines = new ArrayList<>();
        for (String line : page.subList(page.indexOf("```java") + 1, page.size())) {
            if (line.equals("```")) {
                break;
            }
            lines.add(line);
        }
        return lines;
    }

    private static String withoutRemark(String line) {
        return line.replaceFirst("//.*", "").trim();
    }

    public static void main(String[] args) throws IOException {
        Check check = new Check();
        List<String> shown = javaOf(Files.readAllLines(Path.of("README.md")));
        List<String> source = Files.readAllLines(Path.of("tests/ReadmeTest.java"));
        int at = source.indexOf("        " + withoutRemark(shown.get(0)));
        Pattern claim = Pattern.compile("int (\\w+) = manager\\..*// (-?\\d+)\\b.*");
        Map<String, Integer> answers = example();
        int claims = 0;
        for (int line = 0; line < shown.size(); line++) {
            check.due("line " + line + " of README.md's example", withoutRemark(shown.get(line)), source.get(at + line).trim());
            Matcher matcher = claim.matcher(shown.get(line));
            if (matcher.matches()) {
                claims++;
                check.due(shown.get(line), answers.get(matcher.group(1)), Integer.parseInt(matcher.group(2)));
            }
        }
        check.due("the answers that README.md tells", claims, answers.size());
        check.finish();
    }
}
