import java.io.IOException;
import java.nio.file.Files;
import java.nio.file.Path;
import java.util.ArrayList;
import java.util.LinkedHashMap;
import java.util.List;
import java.util.Map;

/**
 * The document by its parts ("What it is", "Terms 1" .. "Terms 4", "Promise 1" .. "Promise 37"). A test stands under the
 * words that it holds; words that are not the document's, a test that asks nothing, and words of the terms and promises
 * left without a test are wrong.
 */
final class Edges {
    /** Numbers that no count of the document reaches. */
    static final int[] FAR = {Integer.MIN_VALUE, Integer.MIN_VALUE + 1, -65536, -256, 1 << 16, 1 << 30, Integer.MAX_VALUE};

    private static final Path DOCUMENT = Path.of("../shared/DOC.md");
    private static final String HEAD = "What it is";
    private static final int TERMS = 4;
    private static final int PROMISES = 37;

    private final Due due = new Due("EdgesTest");
    private final Map<String, String> parts = new LinkedHashMap<>();
    private final Map<String, boolean[]> held = new LinkedHashMap<>();
    private String under = "";
    private int askedUnder = 1;

    Edges() throws IOException {
        String part = "";
        for (String line : Files.readAllLines(DOCUMENT)) {
            if (line.startsWith("## ")) {
                part = partOf(line.substring(3));
            } else if (line.startsWith("==== ")) {
                part = "Terms " + line.charAt(5);
            }
            if (!part.isEmpty() && !line.startsWith("## ") && !line.startsWith("```")) {
                parts.merge(part, withoutHead(line), (before, behind) -> folded(before + " " + behind));
            }
        }
        parts.replaceAll((name, words) -> folded(words));
        parts.forEach((name, words) -> held.put(name, new boolean[words.length()]));
        due.is("parts of the document", parts.size(), 1 + TERMS + PROMISES);
    }

    private static String partOf(String heading) {
        if (heading.startsWith("Promise ")) {
            return heading.substring(0, heading.indexOf(':'));
        }
        return heading.equals(HEAD) ? HEAD : "";
    }

    private static String withoutHead(String line) {
        if (line.startsWith("==== ")) {
            return line.substring(8);
        }
        return line.startsWith("`") ? line.substring(line.indexOf("`: ") + 3) : line;
    }

    private static String folded(String words) {
        return words.replaceAll("\\s+", " ").trim();
    }

    /** What is asked from here on is due by these words. */
    void by(String part, String words) {
        askedSomething();
        under = part + " '" + words + "'";
        askedUnder = 0;
        int from = parts.getOrDefault(part, "").indexOf(words);
        due.is(under + " stands in the document", from >= 0, true);
        while (from >= 0) {
            for (int i = from; i < from + words.length(); i++) {
                held.get(part)[i] = true;
            }
            from = parts.get(part).indexOf(words, from + 1);
        }
    }

    void is(String call, long got, long want) {
        askedUnder++;
        due.is(under + ": " + call, got, want);
    }

    void is(String call, boolean got, boolean want) {
        is(call, got ? 1 : 0, want ? 1 : 0);
    }

    void throwing(String call, Runnable body, String want) {
        askedUnder++;
        due.throwing(under + ": " + call, body, want);
    }

    /** A text that has a fault where ^ stands in it. */
    void fault(int kind, String marked) {
        int place = marked.indexOf('^');
        String text = marked.substring(0, place) + marked.substring(place + 1);
        WeedStrand x = new WeedStrand();
        is("text " + text, Due.tell(x, text), WeedStrand.NONE);
        is("fault of " + text, x.fault(0), kind);
        is("place of the fault in " + text, x.fault(1), place);
    }

    /** A text without a fault, of so many lines. */
    WeedStrand told(int lines, String text) {
        WeedStrand x = new WeedStrand();
        is("text " + text, Due.tell(x, text), lines);
        is("fault of " + text, x.fault(0), 0);
        return x;
    }

    void lies(String when, WeedStrand x, int... want) {
        is("stripes " + when, x.count(0), want.length);
        for (int s = 0; s < want.length; s++) {
            is("lies on " + s + " " + when, x.stripe(s, 0), want[s]);
        }
    }

    private void askedSomething() {
        due.is(under + " asks something", askedUnder > 0, true);
    }

    void end() {
        askedSomething();
        for (String name : parts.keySet()) {
            List<String> missing = name.equals(HEAD) ? List.of() : missing(name);
            due.is("words of " + name + " without a test: " + missing, missing.size(), 0);
        }
        due.end();
    }

    private List<String> missing(String name) {
        List<String> missing = new ArrayList<>();
        StringBuilder row = new StringBuilder();
        for (int i = 0; i < parts.get(name).length(); i++) {
            char sign = parts.get(name).charAt(i);
            boolean isWord = Character.isLetterOrDigit(sign);
            if (isWord && !held.get(name)[i]) {
                row.append(sign);
            } else if (row.length() > 0) {
                missing.add(row.toString());
                row.setLength(0);
            }
        }
        if (row.length() > 0) {
            missing.add(row.toString());
        }
        return missing;
    }
}
