import java.io.IOException;
import java.lang.reflect.Method;
import java.lang.reflect.Modifier;
import java.nio.file.Files;
import java.nio.file.Path;
import java.util.ArrayList;
import java.util.List;

/**
 * README.md: its example stands in this file, sign for sign, and answers what it says; every method of the
 * face is told.
 */
public final class ReadmeTest {
    private static final Path README = Path.of("README.md");
    private static final Path THIS = Path.of("src", "test", "java", "ReadmeTest.java");
    private static final String INDENT = "        ";

    private static void exampleAnswers(Checks checks) {
        // the example begins
        MagnetPoems poems = new MagnetPoems();     // four bare doors, all 40 words in the bag

        int stands = poems.put(0, 0, 0, 0);        // 0: word 0 stands on door 0, line 0, place 0
        int behind = poems.put(5, 0, 0, 1);        // 0: word 5, a deed of 3 beats, stands behind it
        int whyNot = poems.whyNot(4, 0, 0, 0);     // 3: two things would be side by side
        int refused = poems.put(4, 0, 0, 0);       // 3: the same; word 4 stays in the bag
        int worth = poems.doorOf(0, 0);            // 9: 4 beats, and 5 for a thing and a deed

        for (char code : "10,11/12".toCharArray()) {
            poems.append(code);
        }
        int error = poems.firstError();            // 8, the length of the buffer: no syntax error
        int words = poems.load(1);                 // 3: words 10 and 11 on line 0 of door 1, word 12 on line 1
        int best = poems.bestWord(1, 1);           // 29: a deed of 3 beats, and it rhymes with line 0
        int ending = poems.borrow(0, 0, 1, 1);     // 3: line 0 of door 0 has the ending of word 12 now

        int inBag = poems.keep(0);                 // 35 words in the bag; the snapshot is in slot 0
        int before = poems.set(1, 5);              // 20: so rich had a door to be for the thief
        int prey = poems.prey();                   // 5: the word of the most beats on the richest door
        int stolen = poems.sleep(2);               // 2: word 5 of door 0, and word 11 of door 1
        int saved = poems.undo();                  // 6 states were saved, 5 are left; both words are back
        int restored = poems.goBack(0);            // 35 in the bag; setting 1 is 20 again

        int length = poems.write(1);               // 8: the buffer is 10,11/12
        double share = poems.shownShare();         // 0.125: 5 of 40 words are on doors
        int none = poems.at(3, 3, 5);              // MagnetPoems.NONE: no word is there
        // the example ends
        checks.due("stands", stands, 0);
        checks.due("behind", behind, 0);
        checks.due("whyNot", whyNot, 3);
        checks.due("refused", refused, 3);
        checks.due("worth", worth, 9);
        checks.due("error", error, 8);
        checks.due("words", words, 3);
        checks.due("best", best, 29);
        checks.due("ending", ending, 3);
        checks.due("inBag", inBag, 35);
        checks.due("before", before, 20);
        checks.due("prey", prey, 5);
        checks.due("stolen", stolen, 2);
        checks.due("saved", saved, 5);
        checks.due("word 5 is back", poems.wordOf(5, 3), 0);
        checks.due("word 11 is back", poems.wordOf(11, 3), 1);
        checks.due("restored", restored, 35);
        checks.due("setting 1", poems.setting(1), 20);
        checks.due("length", length, 8);
        checks.due("share in thousandths", (long) (1000 * share), 125);
        checks.due("none", none, MagnetPoems.NONE);
    }

    /** The lines behind the one that is first, up to the one that is last, without the indent. */
    private static String between(List<String> lines, String first, String last, String indent) {
        List<String> found = new ArrayList<>();
        int at = lines.indexOf(first) + 1;
        while (at > 0 && at < lines.size() && !lines.get(at).equals(last)) {
            String line = lines.get(at);
            found.add(line.startsWith(indent) ? line.substring(indent.length()) : line);
            at++;
        }
        return String.join("\n", found);
    }

    private static void exampleIsTold(Checks checks) throws IOException {
        String told = between(Files.readAllLines(README), "```java", "```", "");
        String run = between(Files.readAllLines(THIS), INDENT + "// the example begins",
                INDENT + "// the example ends", INDENT);
        checks.due("an example is told", told.isEmpty() ? 0 : 1, 1);
        checks.dueOutcome("README's example", told, run);
    }

    private static void methodsAreTold(Checks checks) throws IOException {
        String readme = Files.readString(README);
        for (Method method : MagnetPoems.class.getDeclaredMethods()) {
            if (Modifier.isPublic(method.getModifiers())) {
                String name = method.getName();
                checks.due("README tells " + name, readme.contains("| `" + name + "(") ? 1 : 0, 1);
            }
        }
    }

    public static void main(String[] args) throws IOException {
        Checks checks = new Checks();
        exampleAnswers(checks);
        exampleIsTold(checks);
        methodsAreTold(checks);
        checks.end();
    }
}
