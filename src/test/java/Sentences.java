import java.io.IOException;
import java.nio.file.Files;
import java.nio.file.Path;
import java.util.ArrayList;
import java.util.LinkedHashMap;
import java.util.List;
import java.util.Map;
import java.util.regex.Matcher;
import java.util.regex.Pattern;

/**
 * The document's sentences, each with a test of its own: a sentence that is tested must stand in the document
 * under its heading, word by word, and at the end no sentence of the terms or promises may be without a test.
 */
final class Sentences {
    private static final Path DOCUMENT = Path.of("../shared/DOC.md");
    private static final Pattern PROMISE = Pattern.compile("## (Promise \\d+):.*");
    private static final Pattern TERM = Pattern.compile("(\\d)\\. (.*)");

    private final Check check = new Check();
    private final Map<String, String> words = new LinkedHashMap<>();
    private final Map<String, boolean[]> tested = new LinkedHashMap<>();
    private String now = "";

    Sentences() throws IOException {
        Map<String, StringBuilder> parts = new LinkedHashMap<>();
        String heading = "";
        for (String line : Files.readAllLines(DOCUMENT)) {
            Matcher promise = PROMISE.matcher(line);
            Matcher term = TERM.matcher(line);
            String rest = line;
            if (promise.matches()) {
                heading = promise.group(1);
                rest = "";
            } else if (line.startsWith("## ")) {
                heading = line.equals("## Terms") ? "Terms" : "";
                rest = "";
            } else if (heading.startsWith("Terms") && term.matches()) {
                heading = "Terms " + term.group(1);
                rest = term.group(2);
            }
            if (!heading.isEmpty() && !rest.startsWith("```")) {
                parts.computeIfAbsent(heading, h -> new StringBuilder()).append(rest).append(' ');
            }
        }
        parts.forEach((h, text) -> {
            String plain = text.toString().replaceAll("^\\s*`[^`]*`:", "").replaceAll("\\s+", " ").trim();
            words.put(h, plain);
            tested.put(h, new boolean[plain.length()]);
        });
    }

    /** What is due from here on is due by this sentence. */
    void sentence(String heading, String sentence) {
        now = heading + ", \"" + sentence + "\": ";
        String text = words.getOrDefault(heading, "");
        int at = text.indexOf(sentence);
        check.isTrue(now + "stands in the document", at >= 0);
        for (int k = at; at >= 0 && k < at + sentence.length(); k++) {
            tested.get(heading)[k] = true;
        }
    }

    void due(String call, long got, long want) {
        check.same(now + call, got, want);
    }

    void due(String call, boolean got, boolean want) {
        check.same(now + call, got, want);
    }

    void holds(String claim, boolean claimHolds) {
        check.isTrue(now + claim, claimHolds);
    }

    void close() {
        now = "";
        int promises = 0;
        for (String heading : words.keySet()) {
            promises += heading.startsWith("Promise") ? 1 : 0;
            for (String left : untested(heading)) {
                check.isTrue(heading + " has no test of \"" + left + "\"", false);
            }
        }
        check.isTrue("44 promises and 4 terms are told", promises == 44 && words.containsKey("Terms 4"));
        check.close();
    }

    private List<String> untested(String heading) {
        List<String> all = new ArrayList<>();
        String text = words.get(heading);
        boolean[] seen = tested.get(heading);
        for (int from = 0; from < text.length(); from++) {
            int to = from;
            while (to < text.length() && !seen[to]) {
                to++;
            }
            String left = text.substring(from, to);
            if (left.matches(".*[A-Za-z0-9].*")) {
                all.add(left.trim());
            }
            from = to;
        }
        return all;
    }
}
