import java.lang.reflect.Method;
import java.lang.reflect.Modifier;
import java.nio.file.Files;
import java.nio.file.Path;
import java.util.ArrayList;
import java.util.List;

/** What README.md shows is so: its example stands here word by word and is run, and it names every call. */
public final class ReadmeTest {
    public static void main(String[] args) throws Exception {
        example();
        exampleIsThatOfTheReadme();
        everyCallIsNamed();
        Due.end();
    }

    private static void example() {
        // from README.md
        PicturesLent lent = new PicturesLent();
        lent.far(0, 1, 30);                    // 30 miles between the towns 0 and 1
        int home = lent.home(1, 100);          // a home in town 1 that may have works of 100 points
        int work = lent.work(3, 400, 0);       // of artist 3, worth 400 (20 points), in the store of town 0
        lent.rule(0, 1210060, 20025);          // from day 0 on: age 1, rest 2, keep 1, term 60; rate 20, part 25
        int wish = lent.wish(home, work);
        lent.go(10);                           // ten days later
        int rank = lent.rank(wish);            // 10: age 1 times ten days
        lent.offer(work, true);                // to the next one, who takes it: 30 miles are driven
        lent.go(40);
        int rent = lent.back(work);            // 16: two begun 30 days, 8 each; the artist gets 4 of them
        int owes = lent.pay(home, 6);          // 10 are owed yet
        // to here
        Due.is("README: home", 0, home);
        Due.is("README: work", 0, work);
        Due.is("README: points", 20, lent.told(work, 7));
        Due.is("README: wish", 0, wish);
        Due.is("README: rank", 10, rank);
        Due.is("README: miles driven", 30, lent.count(5));
        Due.is("README: rent", 16, rent);
        Due.is("README: what the artist got", 4, lent.artist(3));
        Due.is("README: owed yet", 10, owes);
    }

    private static void exampleIsThatOfTheReadme() throws Exception {
        List<String> here = between(lines("src/test/java/ReadmeTest.java"), "// from README.md", "// to here");
        List<String> shown = between(lines("README.md"), "```java", "```");
        Due.yes("README.md has an example", !shown.isEmpty());
        Due.is("lines of the example", here.size(), shown.size());
        for (int i = 0; i < here.size() && i < shown.size(); i++) {
            Due.yes("README.md has the line " + here.get(i), here.get(i).equals(shown.get(i)));
        }
    }

    private static void everyCallIsNamed() throws Exception {
        String readme = Files.readString(Path.of("README.md"));
        for (Method m : PicturesLent.class.getDeclaredMethods()) {
            if (Modifier.isPublic(m.getModifiers())) {
                Due.yes("README.md names " + m.getName(), readme.contains("`" + m.getName() + "("));
            }
        }
    }

    private static List<String> lines(String file) throws Exception {
        List<String> found = new ArrayList<>();
        for (String line : Files.readAllLines(Path.of(file))) {
            found.add(line.strip());
        }
        return found;
    }

    private static List<String> between(List<String> lines, String first, String last) {
        List<String> found = new ArrayList<>();
        int from = lines.indexOf(first);
        for (int i = from + 1; from >= 0 && i < lines.size() && !lines.get(i).equals(last); i++) {
            found.add(lines.get(i));
        }
        return found;
    }
}
