import java.io.IOException;
import java.nio.file.Files;
import java.nio.file.Path;
import java.util.ArrayList;
import java.util.LinkedHashMap;
import java.util.List;
import java.util.Map;

/**
 * Sentence by sentence: the files under src/test/sentences quote the document and tell, for each sentence that names a
 * boundary, a run of calls on both of its sides. A line there is one of these:
 *
 * <pre>
 * ## Promise 2               the section of the document that is quoted from here on
 * &gt; `bays`: the number       a sentence, or a part of one, of which the run below is
 * &gt;&gt; that goes on here       more of the same sentence
 * ~ The class is not          a sentence that names no boundary
 * start(3) ! IllegalArgument  a line of the run, as Script tells it
 * // said ahead of a section  a remark
 * </pre>
 *
 * Each quote must stand in its section, and no word of the document from "Description" on may be left unquoted.
 */
public final class SentencesTest {
    private static final Path DOCUMENT = Path.of("../shared/DOC.md");
    private static final Path TESTS = Path.of("src/test/sentences");

    private final Map<String, String> sections = new LinkedHashMap<>();
    private final Map<String, boolean[]> quoted = new LinkedHashMap<>();
    private String section = "";
    private final List<String> sentences = new ArrayList<>();
    private final StringBuilder run = new StringBuilder();

    public static void main(String[] args) throws IOException {
        SentencesTest test = new SentencesTest();
        test.readDocument();
        for (String file : new String[] {"description.txt", "promises.txt"}) {
            for (String line : Files.readAllLines(TESTS.resolve(file))) test.take(line);
            test.finishRun();
        }
        test.checkAllIsQuoted();
        Script.finish();
    }

    private void readDocument() throws IOException {
        String heading = "";
        StringBuilder body = new StringBuilder();
        for (String line : Files.readAllLines(DOCUMENT)) {
            if (line.startsWith("## ")) {
                addSection(heading, body);
                heading = line.substring(3).replaceFirst(":.*", "");
                body.setLength(0);
            } else if (!isSignature(heading, line) && !line.startsWith("----")) {
                body.append(line).append(' ');
            }
        }
        addSection(heading, body);
    }

    /** The signatures are FaceTest's. */
    private static boolean isSignature(String heading, String line) {
        return heading.startsWith("Promise") && line.startsWith("`") && line.endsWith("`");
    }

    private void addSection(String heading, StringBuilder body) {
        String text = withSingleBlanks(body.toString());
        sections.put(heading, text);
        quoted.put(heading, new boolean[text.length()]);
    }

    private static String withSingleBlanks(String text) {
        return text.trim().replaceAll("\\s+", " ");
    }

    private void take(String line) {
        if (line.startsWith("## ")) {
            finishRun();
            section = line.substring(3).trim();
        } else if (line.startsWith(">> ") && !sentences.isEmpty()) {
            sentences.add(sentences.remove(sentences.size() - 1) + " " + line.substring(3));
        } else if (line.startsWith("> ")) {
            if (run.length() > 0) finishRun();
            sentences.add(line.substring(2));
        } else if (line.startsWith("~ ")) {
            finishRun();
            quote(line.substring(2));
        } else if (!line.isBlank() && !line.startsWith("//")) {
            run.append(line).append('\n');
        }
    }

    private void finishRun() {
        if (sentences.isEmpty() != (run.length() == 0)) {
            Script.due(section + ": " + sentences, "a sentence or a run alone", "both");
        }
        for (String sentence : sentences) quote(sentence);
        if (!sentences.isEmpty()) Script.run(section + ": " + String.join(" | ", sentences), run.toString());
        sentences.clear();
        run.setLength(0);
    }

    private void quote(String sentence) {
        String text = sections.getOrDefault(section, "");
        String words = withSingleBlanks(sentence);
        int from = text.indexOf(words);
        if (from < 0) Script.due(section + ": " + words, "is not in the document", "is quoted from it");
        while (from >= 0) {
            for (int i = from; i < from + words.length(); i++) quoted.get(section)[i] = true;
            from = text.indexOf(words, from + 1);
        }
    }

    private void checkAllIsQuoted() {
        for (String heading : sections.keySet()) {
            if (!heading.equals("Description") && !heading.startsWith("Promise")) continue;
            StringBuilder rest = new StringBuilder();
            String text = sections.get(heading);
            for (int i = 0; i < text.length(); i++) rest.append(quoted.get(heading)[i] ? '\n' : text.charAt(i));
            for (String words : rest.toString().split("\n+")) {
                if (words.matches(".*[A-Za-z0-9].*")) Script.due(heading, "no test quotes: " + words, "all is quoted");
            }
        }
    }
}
