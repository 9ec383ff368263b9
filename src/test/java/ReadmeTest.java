import java.io.IOException;
import java.nio.file.Files;
import java.nio.file.Path;
import java.util.ArrayList;
import java.util.LinkedHashMap;
import java.util.List;
import java.util.Map;
import java.util.regex.Matcher;
import java.util.regex.Pattern;

/**
 * The example of README.md: its lines stand here once more, so that they are compiled and run, and
 * each answer is compared with the number that README.md tells behind the line.
 */
public final class ReadmeTest {
    private static final Pattern ANSWER = Pattern.compile("(?:int|long|boolean) (\\w+) = .*; +// (-?\\w+).*");

    public static void main(String[] args) throws IOException {
        List<String> shown = between("README.md", "```java", "```");
        List<String> run = between("src/test/java/ReadmeTest.java", "// the example", "// its end");
        Check.same("lines of the example", shown.size(), run.size());
        for (int i = 0; i < Math.min(shown.size(), run.size()); i++) {
            Check.same("line " + (i + 1) + " of the example", run.get(i), shown.get(i));
        }
        Map<String, Object> answers = example();
        for (String line : shown) {
            Matcher told = ANSWER.matcher(line);
            if (told.matches()) {
                Check.same(told.group(1) + " of the example",
                        String.valueOf(answers.remove(told.group(1))), told.group(2));
            }
        }
        Check.same("answers that README.md doesn't tell", answers.keySet().toString(), "[]");
        Check.end("ReadmeTest");
    }

    private static Map<String, Object> example() {
        // the example
        ShockTube x = new ShockTube();

        x.shape(4, ShockTube.WALL, ShockTube.OPEN);
        x.cell(0, 3000, 0, 60000, 400);          // cell, mass, momentum, energy, fuel
        x.ignition(300, 25, 12);                 // temperature, hundredths of the fuel, heat for each
        x.keep(0);
        int done = x.step(20, 20);               // 20: t, how many; fewer if one is refused
        int pressure = x.tube(0, 4);             // 12393
        int mass = x.tube(0, 0);                 // 1801
        int massAnew = x.anew(0, 0);             // 1801: found anew from all that was told and done
        int greatest = x.probe(3, 0);            // 1801: the greatest pressure behind a step
        int first = x.probe(3, 1);               // 20: the step in which it came to that
        long cameMass = x.came(0);               // -47: so much went out at the open end
        long burnt = x.came(5);                  // 394
        boolean isKept = x.isKept(2);            // true: the energy is what was told and came
        x.goBack(0);
        int steps = x.steps();                   // 0

        x.front(ShockTube.SHOCK, 5000, 700, 50); // kind, place, speed, strength
        int at = x.front(ShockTube.CONTACT, 9000, 0, 20); // 1: which one of the row it is
        int fronts = x.tick(10);                 // 2: so many there are then
        int kind = x.ofFront(0, 0);              // 1: the contact, as the shock went through it
        int place = x.ofFront(1, 1);             // 11900
        int strength = x.ofFront(1, 3);          // 45

        x.pipe(4, 10, 1, 5, 60, 25);             // reaches, impedance, friction, loss, head, flow
        int opening = x.valve(0);                // 100: the opening before
        int ticks = x.flow(10);                  // 10: how many were done; fewer if one is refused
        int head = x.node(4, 0);                 // -100
        int cavity = x.node(4, 2);               // 5
        int highest = x.node(4, 3);              // 304
        // its end
        Map<String, Object> answers = new LinkedHashMap<>();
        answers.putAll(Map.of("done", done, "pressure", pressure, "mass", mass, "massAnew", massAnew,
                "greatest", greatest, "first", first, "cameMass", cameMass, "burnt", burnt, "isKept", isKept,
                "steps", steps));
        answers.putAll(Map.of("at", at, "fronts", fronts, "kind", kind, "place", place, "strength", strength));
        answers.putAll(Map.of("opening", opening, "ticks", ticks, "head", head, "cavity", cavity,
                "highest", highest));
        return answers;
    }

    /** The lines between the first line that is from and the next one that is to, without what is ahead of them. */
    private static List<String> between(String file, String from, String to) throws IOException {
        List<String> lines = new ArrayList<>();
        boolean isWithin = false;
        for (String line : Files.readAllLines(Path.of(file))) {
            String bare = line.strip();
            if (isWithin && bare.equals(to)) {
                return lines;
            }
            if (isWithin) {
                lines.add(bare);
            }
            isWithin |= bare.equals(from);
        }
        return lines;
    }
}
