import java.io.IOException;
import java.nio.file.Files;
import java.nio.file.Path;
import java.util.ArrayList;
import java.util.LinkedHashMap;
import java.util.List;
import java.util.Map;
import java.util.function.Consumer;
import java.util.function.Supplier;

/** Checks that stand under the document's own sentences, so that none of these is left without one. */
abstract class Sentences {
    private static final Path DOCUMENT = Path.of("../shared/DOC.md");

    private final Checks checks = new Checks();
    /** By heading, the document's words; those that a test has quoted are taken out. */
    private final Map<String, String> unquoted = new LinkedHashMap<>();
    private final Map<String, String> sections = new LinkedHashMap<>();
    private String label = "";
    private int checksUnderIt = 1;

    Sentences() throws IOException {
        StringBuilder section = new StringBuilder();
        String heading = "";
        for (String line : Files.readAllLines(DOCUMENT)) {
            if (line.startsWith("## ")) {
                sections.put(heading, words(section));
                heading = line.substring(3).split(":")[0];
                section.setLength(0);
            } else if (!line.startsWith("```")) {
                section.append(line.replaceFirst("^`[^`]*`:", "")).append(' ');
            }
        }
        sections.put(heading, words(section));
        unquoted.putAll(sections);
    }

    private static String words(CharSequence text) {
        return text.toString().replaceAll("\\s+", " ").trim();
    }

    /** What follows is checked for these words of the document: where begins with their heading. */
    void sentence(String where, String quote) {
        endSentence();
        label = where + " \"" + quote + "\": ";
        String heading = where.split(",")[0];
        String section = sections.getOrDefault(heading, "");
        checks.equal(label + "the document has it", String.valueOf(section.contains(quote)), "true");
        unquoted.computeIfPresent(heading, (h, rest) -> rest.replace(quote, "|"));
        checksUnderIt = 0;
    }

    private void endSentence() {
        checks.equal(label + "a check stands under it", String.valueOf(checksUnderIt > 0), "true");
    }

    /** Fails if a word under a heading that begins so has not been quoted. */
    void end(String headings) {
        endSentence();
        List<String> seen = new ArrayList<>();
        unquoted.forEach((heading, rest) -> {
            if (heading.startsWith(headings)) {
                seen.add(heading);
                checks.equal(heading + ": words without a test", rest.replaceAll("[| .;:]", ""), "");
            }
        });
        checks.equal(headings + ": is in the document", String.valueOf(seen.isEmpty()), "false");
        checks.end();
    }

    void due(String what, Supplier<Object> call, Object want) {
        checksUnderIt++;
        checks.due(label + what, call, want);
    }

    void illegalArgument(String what, Supplier<Object> call) {
        due(what, call, "throws.IllegalArgumentException");
    }

    void illegalState(String what, Supplier<Object> call) {
        due(what, call, "throws.IllegalStateException");
    }

    void outOfBounds(String what, Supplier<Object> call) {
        due(what, call, "throws.IndexOutOfBoundsException");
    }

    void floor(String what, FigureCaller x, String want) {
        due(what, () -> Checks.floor(x), want);
    }

    void changesNothing(String what, Supplier<FigureCaller> setup, Consumer<FigureCaller> call) {
        checksUnderIt++;
        checks.changesNothing(label + what, setup, call);
    }

    /** Defines a text that is no call, behind a call old of one beat: where the fault is. */
    void faultOf(String text, int want) {
        FigureCaller x = Checks.with("old=all tl");
        illegalArgument("define() of " + text, () -> Checks.define(x, text));
        due("fault() of " + text, () -> x.fault(), want);
    }

    /** Defines a text that is a call, behind a call old of one beat. */
    void callOf(String text, int beats) {
        FigureCaller x = Checks.with("old=all tl");
        due("define() of " + text, () -> Checks.define(x, text), 1);
        due("fault() of " + text, () -> x.fault(), -1);
        due("beats() of " + text, () -> x.beats(1), beats);
    }

    /** Where all stand behind calls of these texts, danced from home one after the other. */
    void behind(String want, String... texts) {
        FigureCaller x = danced(texts);
        floor("behind " + String.join(" | ", texts), x, want);
    }

    static FigureCaller danced(String... texts) {
        FigureCaller x = new FigureCaller();
        for (String text : texts) {
            x.dance(Checks.define(x, text));
        }
        return x;
    }
}
