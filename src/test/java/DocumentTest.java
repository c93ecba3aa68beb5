import java.io.IOException;
import java.lang.reflect.Method;
import java.nio.file.Files;
import java.nio.file.Path;
import java.util.ArrayList;
import java.util.Comparator;
import java.util.LinkedHashMap;
import java.util.List;
import java.util.Map;
import java.util.regex.Matcher;
import java.util.regex.Pattern;

/**
 * Accounts for the document: each of its sentences is quoted by a test, but for the one that leaves
 * all free, and each quotation stands in the document.
 */
public final class DocumentTest {
    private static final Check CHECK = new Check();

    private static final Class<?>[] TESTS = {BoundaryLocksTest.class, BoundaryDeadlocksTest.class,
        BoundaryTextsTest.class, BoundaryUndoTest.class, BoundaryExceptionsTest.class,
        BoundaryTransactionsTest.class, BoundaryQueriesTest.class, PlainSentencesTest.class};

    // Nothing can be tested of it.
    private static final String[] FREE = {"What it is", "what later calls answer is free."};

    // The face and what is free; FaceTest looks at the first.
    private static final List<String> LEFT_OUT = List.of("The public face", "Not promised");

    private static final Pattern CHAPTER = Pattern.compile("## (What it is|Terms|Promise \\d+|.*?)(:.*)?");
    private static final Pattern SECTION = Pattern.compile("(\\d)\\. [A-Z, ]+");
    // The constants and the titles of the groups of calls, at the end of the section 8.
    private static final Pattern OF_THE_FACE = Pattern.compile("The constants: .*|`[A-Z, =0-9-]+`: .*");
    private static final Pattern GROUP = Pattern.compile("Ahead of the calls .* the interface says: ----[^;.]*[;.]");
    private static final Pattern SIGNATURE = Pattern.compile("`[^`]*\\([^`]*`: ");

    public static void main(String[] args) throws IOException {
        Path document = Path.of("..", "shared", "DOC.md");
        if (!Files.exists(document)) {
            System.out.println("there is no " + document + " to account for");
            return;
        }
        Map<String, String> texts = textsByHeading(Files.readAllLines(document));
        Map<String, List<String>> quotations = quotations();
        quotations.forEach((heading, sentences) -> findAll(heading, sentences, texts.getOrDefault(heading, "")));
        texts.forEach((heading, text) -> accountFor(heading, text, quotations.getOrDefault(heading, List.of())));
        CHECK.due("the headings of the document", 2 + 8 + 30, texts.size());
        CHECK.end();
    }

    private static Map<String, String> textsByHeading(List<String> lines) {
        Map<String, String> texts = new LinkedHashMap<>();
        String heading = "";
        for (String line : lines) {
            Matcher chapter = CHAPTER.matcher(line);
            Matcher section = SECTION.matcher(line);
            if (line.startsWith("# ") || line.startsWith("```")) {
                continue;
            }
            if (chapter.matches()) {
                heading = chapter.group(1);
            } else if (section.matches()) {
                heading = "Section " + section.group(1);
            } else if (!heading.isEmpty() && !LEFT_OUT.contains(heading) && !OF_THE_FACE.matcher(line).matches()) {
                texts.merge(heading, " " + bare(line), String::concat);
            }
        }
        texts.replaceAll((key, text) -> text.replaceAll("\\s+", " "));
        return texts;
    }

    private static String bare(String line) {
        return SIGNATURE.matcher(GROUP.matcher(line).replaceFirst("")).replaceFirst("");
    }

    private static Map<String, List<String>> quotations() {
        Map<String, List<String>> quotations = new LinkedHashMap<>();
        for (Class<?> tests : TESTS) {
            for (Method method : Sentences.testsOf(tests)) {
                Sentence sentence = method.getAnnotation(Sentence.class);
                quotations.computeIfAbsent(sentence.of(), key -> new ArrayList<>()).add(sentence.says());
                CHECK.due(method.getName() + " bears the name of its heading", 1,
                        method.getName().matches(nameOf(sentence.of()) + "\\D.*") ? 1 : 0);
            }
        }
        quotations.computeIfAbsent(FREE[0], key -> new ArrayList<>()).add(FREE[1]);
        return quotations;
    }

    private static String nameOf(String heading) {
        String name = heading.equals("What it is") ? "WhatItIs" : heading.replace(" ", "");
        return Character.toLowerCase(name.charAt(0)) + name.substring(1);
    }

    private static void findAll(String heading, List<String> sentences, String text) {
        for (String sentence : sentences) {
            CHECK.due("\"" + sentence + "\" stands under " + heading, 1, text.contains(sentence) ? 1 : 0);
        }
    }

    private static void accountFor(String heading, String text, List<String> sentences) {
        List<String> longestFirst = new ArrayList<>(sentences);
        longestFirst.sort(Comparator.comparing(String::length).reversed());
        String rest = text;
        for (String sentence : longestFirst) {
            rest = rest.replace(sentence, " ");
        }
        if (rest.matches(".*[A-Za-z0-9].*")) {
            CHECK.fault("no test quotes this of " + heading + ":" + rest.replaceAll("\\s+", " "));
        }
    }
}
