import java.io.IOException;
import java.lang.reflect.Constructor;
import java.lang.reflect.Field;
import java.lang.reflect.Method;
import java.lang.reflect.Modifier;
import java.nio.file.Files;
import java.nio.file.Path;
import java.util.Set;
import java.util.TreeSet;
import java.util.regex.Matcher;
import java.util.regex.Pattern;

/** The face is the document's and no more, and the source keeps to those rules of LANGUAGE.md that can be seen in it. */
public final class FaceTest {
    private static final String FACE = "int state(int) int piece(int,int,int) int player(int,int) boolean set(int,int,int) "
            + "int play(int,int) boolean act(int,int) int days(int) int feed(int,int,int,int,int) boolean end(int) int text(int) "
            + "int fault(int) int of(int,int) int who(int,int) int string(int,int) int damps(int,int,int) int settles(int,int) "
            + "int book(int,int) int goes(int,int) int lasts(int,int,int) int chords(int,int,int) int tone(int) int tune(int) "
            + "int canon(int,int,int) int bar(int,int,int) boolean period(int,int) int beats(int,int) int pedal(int,int,int) "
            + "int mud(int) int whose(int,int) int have(int,int) int alike(int) int pages(int,int,int,int) int game(int) "
            + "boolean undo() boolean image(boolean) int look(int)";

    private static void face() {
        Set<String> got = new TreeSet<>();
        Set<String> names = new TreeSet<>();
        for (Method m : WeepingPiano.class.getDeclaredMethods()) {
            StringBuilder s = new StringBuilder(m.getReturnType() + " " + m.getName() + "(");
            for (Class<?> c : m.getParameterTypes()) s.append(s.charAt(s.length() - 1) == '(' ? "" : ",").append(c);
            boolean open = Modifier.isPublic(m.getModifiers()) && !Modifier.isStatic(m.getModifiers());
            Check.due("public or private: " + m, open || Modifier.isPrivate(m.getModifiers()), true);
            if (open) {
                got.add(s + ")");
                names.add(m.getName());
            }
        }
        Set<String> want = new TreeSet<>(Set.of(FACE.split(" (?=int |boolean )")));
        Check.due("the methods " + got, got.equals(want), true);
        for (Class<?> c : WeepingPiano.class.getDeclaredClasses()) {
            Check.due("static: " + c, Modifier.isStatic(c.getModifiers()), true);
            Check.due("not public: " + c, Modifier.isPublic(c.getModifiers()), false);
            for (Method m : c.getDeclaredMethods()) Check.due("own name: " + m, names.contains(m.getName()), false);
        }
        for (Field f : WeepingPiano.class.getDeclaredFields()) {
            boolean none = f.getName().equals("NONE");
            Check.due("field " + f, none ? Modifier.isPublic(f.getModifiers()) : Modifier.isPrivate(f.getModifiers()), true);
        }
        Constructor<?>[] made = WeepingPiano.class.getDeclaredConstructors();
        Check.due("one constructor", made.length == 1 && made[0].getParameterCount() == 0, true);
        Check.due("final", Modifier.isFinal(WeepingPiano.class.getModifiers()), true);
    }

    private static void source() throws IOException {
        String s = Files.readString(Path.of("src/main/java/WeepingPiano.java"));
        String bare = s.replaceAll("(?s)/\\*.*?\\*/", "").replaceAll("\"[^\"]*\"", "\"\"");
        String[] banned = {"throw", "throws", "try", "catch", "synchronized", "assert", "import", "package", "protected", "volatile",
            "native", "Object", "this", "super", "yield", "record", "var", "toString", "hashCode", "Exact"};
        for (String word : banned) {
            Check.due("no " + word, Pattern.compile("\\b" + word + "\\b").matcher(bare).find(), false);
        }
        Check.due("no lambda", bare.contains("->"), false);
        Check.due("no method reference", bare.contains("::"), false);
        Check.due("signs 1 to 127", s.chars().allMatch(c -> c < 128), true);
        Matcher classes = Pattern.compile("\\bclass \\w").matcher(bare);
        int count = 0;
        while (classes.find()) count++;
        Check.due("twelve classes at most", count <= 12, true);
        methodLengths(bare);
        libraryUsed(bare);
        CallDepth calls = new CallDepth(bare);
        Check.due("methods were found", calls.methods() > 100, true);
        Check.due("calls that are no recursion go eight deep at most", calls.deepest() <= 8, true);
        Check.due("recursion is known: " + calls.recursives(), calls.recursives().toString(),
            "[Reader.condition, Reader.enclosed, Reader.single, Recital.tryOrders]");
    }

    /** A method begins and ends with lines of four or eight blanks. */
    private static void methodLengths(String bare) {
        int from = -1;
        int at = 0;
        String[] lines = bare.split("\n");
        for (String line : lines) {
            at++;
            if (line.matches(" {4,8}[A-Za-z].*\\(.*\\) \\{")) {
                from = at;
                Check.due("seven parameters at most: " + line, line.split(",").length <= 7, true);
            }
            if (line.matches(" {4}\\}| {8}\\}") && from >= 0) {
                Check.due("sixty lines at most, line " + from, at - from <= 60, true);
                from = -1;
            }
        }
    }

    /** No names with a capital but the class's own, and those of the library that the rules name. */
    private static void libraryUsed(String bare) {
        Set<String> known = new TreeSet<>(Set.of("WeepingPiano", "String", "Math", "Integer", "System"));
        for (Class<?> c : WeepingPiano.class.getDeclaredClasses()) known.add(c.getSimpleName());
        Matcher names = Pattern.compile("\\b[A-Z]\\w*[a-z]\\w*\\b").matcher(bare);
        while (names.find()) Check.due("name " + names.group(), known.contains(names.group()), true);
        Set<String> functions = Set.of("Math.max", "Math.min", "Math.abs", "Math.floorMod", "Integer.bitCount", "System.arraycopy");
        Matcher calls = Pattern.compile("\\b(?:Math|Integer|System|String)\\.\\w+").matcher(bare);
        while (calls.find()) Check.due("function " + calls.group(), functions.contains(calls.group()), true);
    }

    /** Static fields are constants; a class has some twenty others at most; none is inner, local or without a name. */
    private static void fields() throws IOException {
        Set<Class<?>> constant = Set.of(int.class, long.class, boolean.class, char.class, String.class, int[].class, long[].class, char[].class, byte[].class);
        Set<Class<?>> all = new java.util.HashSet<>(Set.of(WeepingPiano.class.getDeclaredClasses()));
        all.add(WeepingPiano.class);
        for (Class<?> c : all) {
            int own = 0;
            for (Field f : c.getDeclaredFields()) {
                boolean isStatic = Modifier.isStatic(f.getModifiers());
                own += isStatic ? 0 : 1;
                if (isStatic) Check.due("constant " + f, Modifier.isFinal(f.getModifiers()) && constant.contains(f.getType()), true);
            }
            Check.due("fields of " + c, own <= 20, true);
            Check.due("no class in " + c, c == WeepingPiano.class || c.getDeclaredClasses().length == 0, true);
        }
        String home = WeepingPiano.class.getProtectionDomain().getCodeSource().getLocation().getPath();
        try (var files = Files.list(Path.of(home))) {
            long made = files.filter(f -> f.getFileName().toString().startsWith("WeepingPiano")).count();
            Check.due("classes, none without a name", made, all.size());
        }
    }

    public static void main(String[] args) throws IOException {
        face();
        fields();
        source();
        Check.close();
    }
}
