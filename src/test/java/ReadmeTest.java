import java.io.IOException;
import java.lang.reflect.Method;
import java.lang.reflect.Modifier;
import java.nio.file.Files;
import java.nio.file.Path;
import java.util.ArrayList;
import java.util.List;
import java.util.Set;
import java.util.TreeSet;
import java.util.stream.Collectors;
import java.util.stream.Stream;

/** What README.md says of the class and of its tests is so. It is run from the project's own directory. */
final class ReadmeTest {
    private final Check check = new Check();
    private final List<String> readme;
    private final List<String> example = new ArrayList<>();

    private ReadmeTest() throws IOException {
        readme = Files.readAllLines(Path.of("README.md"));
    }

    public static void main(String[] args) throws IOException {
        ReadmeTest test = new ReadmeTest();
        test.findExample();
        test.askExample();
        test.namesEachCall();
        test.namesEachTest();
        test.check.end();
    }

    private void findExample() {
        int start = readme.indexOf("```java");
        if (start < 0) {
            check.tell("README.md has no example");
            return;
        }
        for (int i = start + 1; i < readme.size() && !readme.get(i).equals("```"); i++) {
            example.add(readme.get(i));
        }
    }

    private void askExample() {
        TavernDice ledger = new TavernDice();
        is("TavernDice ledger = new TavernDice();");
        tells("ledger.outcomes();", ledger.outcomes());
        tells("ledger.ways(0, 7);", ledger.ways(0, 7));
        tells("ledger.fairWin(0, 7, 1);", ledger.fairWin(0, 7, 1));
        int wager = ledger.lay(0, 0, 7, 30, 4, 1);
        tells("int wager = ledger.lay(0, 0, 7, 30, 4, 1);", wager);
        tells("ledger.purseOf(0);", ledger.purseOf(0));
        check.same("the bank then", ledger.bank(), 500);
        tells("ledger.bringsOf(wager);", ledger.bringsOf(wager));
        tells("ledger.edgeTop(wager);", ledger.edgeTop(wager));
        tells("ledger.edgeBottom(wager);", ledger.edgeBottom(wager));
        tells("ledger.worstGain();", ledger.worstGain());
        tells("ledger.worstOutcome();", ledger.worstOutcome());
        tells("ledger.hedgeFor(wager, 1, 1);", ledger.hedgeFor(wager, 1, 1));
        tells("ledger.settle(5);", ledger.settle(5));
        tells("ledger.purseOf(0);", ledger.purseOf(0));
        tells("ledger.bank();", ledger.bank());
        tells("ledger.setDice(6, 6, 6);", ledger.setDice(6, 6, 6));
        check.same("lines of the example that were not asked", example.size(), 0);
    }

    private String is(String code) {
        String line = example.isEmpty() ? "" : example.remove(0);
        if (!line.startsWith(code)) {
            check.tell("README.md's example has \"" + line + "\", asked was " + code);
        }
        return line;
    }

    private void tells(String code, int answer) {
        String line = is(code);
        if (!line.contains("// " + answer + ": ")) {
            check.tell("README.md says \"" + line + "\", the answer is " + answer);
        }
    }

    private void namesEachCall() {
        for (Method method : TavernDice.class.getDeclaredMethods()) {
            String name = "`" + method.getName() + "`";
            if (Modifier.isPublic(method.getModifiers()) && readme.stream().noneMatch(line -> line.contains(name))) {
                check.tell("README.md has no call " + name);
            }
        }
    }

    private void namesEachTest() throws IOException {
        Set<String> named = new TreeSet<>();
        for (String line : readme) {
            if (line.matches("\\| `\\w+Test` \\|.*")) {
                named.add(line.substring(3, line.indexOf('`', 3)));
            }
        }
        try (Stream<Path> files = Files.list(Path.of("src/test/java"))) {
            Set<String> there = files.map(file -> file.getFileName().toString())
                .filter(name -> name.endsWith("Test.java")).map(name -> name.replace(".java", ""))
                .collect(Collectors.toCollection(TreeSet::new));
            if (!there.equals(named)) {
                check.tell("README.md names the tests " + named + ", there are " + there);
            }
        }
    }
}
