import java.io.IOException;
import java.nio.file.Files;
import java.nio.file.Path;
import java.util.ArrayList;
import java.util.List;

/** README.md: each call of its example is made, and answers the number behind it; its constants have their numbers. */
public final class ReadmeTest {
    private static final Check CHECK = new Check();
    private static List<String> readme = List.of();
    private static int line = 0;

    public static void main(String[] args) throws IOException {
        readme = Files.readAllLines(Path.of("README.md"));
        example();
        constants();
        notForEachCall();
        CHECK.due("README.md names the command", has("^\\.ci/run$") ? 1 : 0, 1);
        CHECK.finish();
    }

    private static void example() {
        PleasureGarden garden = new PleasureGarden();
        says("garden.place(50, 0)", garden.place(50, 0));
        says("garden.place(20, 1)", garden.place(20, 1));
        says("garden.walk(gate, hall, 3)", garden.walk(0, 1, 3));
        says("garden.rain(5, 9)", garden.rain(5, 9));
        says("garden.feed(3, 'p' | '*' << 8 | '9' << 16)", garden.feed(3, 'p' | '*' << 8 | '9' << 16));
        says("garden.price(0, 0)", garden.price(0, 0));
        says("garden.feed(2, 'p' | '*' << 8)", garden.feed(2, 'p' | '*' << 8));
        says("garden.price(0, 0)", garden.price(0, 0));
        says("garden.sell(0, 99)", garden.sell(0, 99));
        says("garden.enter(7, 4)", garden.enter(7, 4));
        says("garden.enter(7, 2)", garden.enter(7, 2));
        says("garden.party(party, 6)", garden.party(0, 6));
        says("garden.go(party, hall)", garden.go(0, 1));
        says("garden.minutes(3)", garden.minutes(3));
        says("garden.heads(hall)", garden.heads(1));
        says("garden.box(hall, 6)", garden.box(1, 6));
        says("garden.let(box, party)", garden.let(0, 0));
        says("garden.ham(500)", garden.ham(500));
        says("garden.order(party, 3)", garden.order(0, 3));
        says("garden.minutes(1)", garden.minutes(1));
        says("garden.count(7)", garden.count(7));
        says("garden.lamp(60)", garden.lamp(60));
        says("garden.lamp(90)", garden.lamp(90));
        says("garden.fuse(near, far, 25)", garden.fuse(0, 1, 25));
        says("garden.light(near, -1)", garden.light(0, -1));
        says("garden.stolen(3, hall)", garden.stolen(3, 1));
        says("garden.doubt(party)", garden.doubt(0));
        says("garden.close()", garden.close());
        says("garden.foretold(10)", garden.foretold(10));
        CHECK.due("calls of the example that were not made", nextCall() < readme.size() ? 1 : 0, 0);
    }

    /** The example's next call is this one, and the number behind it is the answer. */
    private static void says(String call, int answer) {
        line = nextCall();
        String told = line < readme.size() ? readme.get(line) : "";
        line++;
        CHECK.due("README.md has " + call + " where it has: " + told, told.contains(call + "; ") ? 1 : 0, 1);
        CHECK.due("README.md answers " + answer + " where it has: " + told, told.contains("// " + answer + ":") ? 1 : 0, 1);
    }

    private static int nextCall() {
        int at = line;
        while (at < readme.size() && !readme.get(at).matches("(int \\w+ = )?garden\\.\\w+\\(.*")) {
            at++;
        }
        return at;
    }

    private static void constants() {
        row("BAD", PleasureGarden.BAD);
        row("NOT", PleasureGarden.NOT);
        row("FULL", PleasureGarden.FULL);
        row("NO_WAY", PleasureGarden.NO_WAY);
        row("FORGED", PleasureGarden.FORGED);
        row("VOID", PleasureGarden.VOID);
    }

    private static void row(String name, int number) {
        CHECK.due("README.md has " + name + " by its number", has("\\| `" + name + "` \\| " + number + " \\| .+") ? 1 : 0, 1);
    }

    /** The promises that name NOT, each told in a row of its table. */
    private static void notForEachCall() {
        List<String> told = new ArrayList<>();
        int first = 0;
        while (first < readme.size() && !readme.get(first).startsWith("| call | is answered by `NOT`")) {
            first++;
        }
        for (int i = first + 2; i < readme.size() && readme.get(i).startsWith("| "); i++) {
            for (String name : readme.get(i).split("\\|")[1].split(",")) {
                told.add(name.replace("`", "").trim());
            }
        }
        List<String> due = List.of("enter", "go", "leave", "burns", "best", "let", "rise", "order", "in", "inForce", "close");
        CHECK.due("README.md tells NOT of " + told, told.equals(due) ? 1 : 0, 1);
    }

    private static boolean has(String pattern) {
        return readme.stream().anyMatch(l -> l.matches(pattern));
    }
}
