import java.io.IOException;
import java.lang.reflect.Constructor;
import java.lang.reflect.Field;
import java.lang.reflect.Method;
import java.lang.reflect.Modifier;
import java.nio.file.Files;
import java.nio.file.Path;
import java.util.ArrayList;
import java.util.List;
import java.util.Set;
import java.util.TreeSet;
import java.util.regex.Matcher;
import java.util.regex.Pattern;

/** The document from its first line: no sentence of it without a test that says it, and no test that says what isn't there. */
public final class DocumentTest {
    private static final Path DOCUMENT = Path.of("../shared/DOC.md");
    private static final Class<?>[] HOMES = {DocThings.class, DocTexts.class, DocPlay.class, DocThought.class, DocPromises.class};

    private DocumentTest() {
    }

    private static String flat(String s) {
        return s.replaceAll("\\s+", " ").trim();
    }

    /** What is to be said: all but headings, the marks of blocks, the face (see below) and what is not promised. */
    private static String sentences(String document) {
        String s = document.substring(0, document.indexOf("## Not promised"));
        s = s.replaceAll("(?s)```java.*?```", "").replaceAll("(?m)^#.*$", "").replaceAll("(?m)^```\\w*$", "");
        return flat(s.replaceAll("(?m)^`[^`]*\\)`: ", "").replaceAll("(?m)^==== ", ""));
    }

    private static List<String> said() {
        List<String> all = new ArrayList<>();
        for (Class<?> home : HOMES) {
            for (Method m : home.getDeclaredMethods()) {
                Says says = m.getAnnotation(Says.class);
                boolean test = m.getName().matches("p\\d\\d\\w+") && Modifier.isStatic(m.getModifiers());
                Check.due(m.getName() + " is a test if and only if it says something", test, says != null);
                if (says != null) all.addAll(List.of(says.value()));
            }
        }
        return all;
    }

    private static void everySentenceIsSaid(String document) {
        String sentences = sentences(document);
        boolean[] covered = new boolean[sentences.length()];
        for (String quote : said()) {
            String q = flat(quote);
            int at = sentences.indexOf(q);
            Check.due("the document says '" + q + "'", at >= 0, true);
            for (; at >= 0; at = sentences.indexOf(q, at + 1)) {
                for (int i = at; i < at + q.length(); i++) covered[i] = true;
            }
        }
        StringBuilder left = new StringBuilder();
        for (int i = 0; i < covered.length; i++) left.append(covered[i] ? ' ' : sentences.charAt(i));
        String untested = flat(left.toString());
        Check.due("said by no test: " + untested, untested.isEmpty(), true);
    }

    private static String shown(Class<?>[] types) {
        StringBuilder s = new StringBuilder();
        for (Class<?> c : types) s.append(s.length() == 0 ? "" : ", ").append(c);
        return "(" + s + ")";
    }

    /** The face in the document against the class, and each promise's head against the face. */
    private static void theFaceIsTheDocuments(String document) {
        String block = document.substring(document.indexOf("```java"), document.indexOf("## Terms"));
        Set<String> want = new TreeSet<>();
        Matcher m = Pattern.compile("(?m)^ {4}(public .*);$").matcher(block);
        while (m.find()) want.add(m.group(1).replaceAll("(int|boolean) \\w+(?=[,)])", "$1"));
        Set<String> got = new TreeSet<>();
        for (Method f : WeepingPiano.class.getDeclaredMethods()) {
            if (Modifier.isPublic(f.getModifiers())) got.add("public " + f.getReturnType() + " " + f.getName() + shown(f.getParameterTypes()));
        }
        for (Constructor<?> c : WeepingPiano.class.getConstructors()) got.add("public " + c.getName() + shown(c.getParameterTypes()));
        for (Field f : WeepingPiano.class.getFields()) {
            got.add(Modifier.toString(f.getModifiers()) + " " + f.getType() + " " + f.getName() + " = " + WeepingPiano.NONE);
        }
        Check.due("the face is " + got, got.equals(want), true);
        Check.due("a constant, a constructor and 36 methods", want.size(), 38);
        Matcher head = Pattern.compile("(?m)^`([^`]*\\))`: ").matcher(document);
        int promises = 0;
        for (; head.find(); promises++) Check.due("in the face: " + head.group(1), block.contains("public " + head.group(1) + ";"), true);
        Check.due("promises", promises, 37);
    }

    public static void main(String[] args) throws IOException {
        if (Files.isReadable(DOCUMENT)) {
            String document = Files.readString(DOCUMENT);
            theFaceIsTheDocuments(document);
            everySentenceIsSaid(document);
        } else {
            System.out.println(DOCUMENT + " is not there: what is said is tested, but not whether all is said");
        }
        Edge.runAll(HOMES);
        Check.close();
    }
}
