import java.io.IOException;
import java.lang.reflect.Method;
import java.lang.reflect.Modifier;
import java.nio.file.Files;
import java.nio.file.Path;

/** What README.md shows of the class is so: its examples answer as it says, and it names every call and every test. */
public final class ReadmeTest {
    private static final int NONE = PondStair.NONE;
    private static final Check CHECK = new Check();

    private final String page;

    private ReadmeTest(String page) {
        this.page = page;
    }

    public static void main(String[] args) throws IOException {
        ReadmeTest test = new ReadmeTest(Files.readString(Path.of("README.md")));
        test.examples();
        test.calls();
        test.tests();
        CHECK.close();
    }

    private void shows(String words) {
        CHECK.isTrue("README.md shows <" + words + ">", page.contains(words));
    }

    private void due(String call, long got, long want) {
        CHECK.isTrue("README.md shows " + call + " with " + want, page.lines().anyMatch(l -> l.contains(call) && l.contains("// " + want)));
        CHECK.same(call, got, want);
    }

    private void examples() {
        PondStair x = new PondStair();
        shows("x.feed(0x706f6e64, 0x20352033, 0x20313b68, 0x61726d20, 0x3020373b); // \"pond 5 3 1;harm 0 7;\"");
        x.feed(0x706f6e64, 0x20352033, 0x20313b68, 0x61726d20, 0x3020373b);
        shows("x.end(20);");
        x.end(20);
        due("x.text(0, PondStair.NONE);", x.text(0, NONE), 0);
        CHECK.same("HARM", x.pond(0, NONE, 0, 5), 7);
        due("x.safe(hill, PondStair.NONE);", x.safe(0, NONE), 2);
        String hill = "pond 4 4 1;pond 6 3 1;down 0 1;goes 0 5;goes 1 2;harm 0 10;harm 1 100;rain 0 60;rain 2 40;mend 3;";
        due("Tape.hill(x, \"" + hill + "\");", Tape.hill(x, hill), 1);
        String plan = "mend 0 4;low 1 2;widen 0 2;";
        due("Tape.plan(x, \"" + plan + "\");", Tape.plan(x, plan), 0);
        due("x.storm(1, PondStair.NONE, 0, 1, 0);", x.storm(1, NONE, 0, 1, 0), 3);
        due("x.mean(1, PondStair.NONE, PondStair.NONE);", x.mean(1, NONE, NONE), 830000);
        shows("likely(1, NONE, NONE) = 10000");
        CHECK.same("all PARTS", x.likely(1, NONE, NONE), 10000);
        due("x.mean(1, 0, PondStair.NONE);", x.mean(1, 0, NONE), 242000);
        due("x.best(1, PondStair.NONE, 3, 14);", x.best(1, NONE, 3, 14), 2);
    }

    private void calls() {
        String table = page.substring(Math.max(0, page.indexOf("| what for |")));
        for (Method m : PondStair.class.getDeclaredMethods()) {
            if (Modifier.isPublic(m.getModifiers())) {
                CHECK.isTrue("the table names " + m.getName(), table.contains("`" + m.getName() + "`"));
            }
        }
    }

    private void tests() throws IOException {
        try (var files = Files.list(Path.of("src/test/java"))) {
            files.map(f -> f.getFileName().toString()).filter(f -> f.endsWith("Test.java"))
                .forEach(f -> shows("- `" + f.substring(0, f.length() - 5) + "`:"));
        }
    }
}
