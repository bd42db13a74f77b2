import java.io.IOException;
import java.lang.reflect.Method;
import java.lang.reflect.Modifier;
import java.nio.file.Files;
import java.nio.file.Path;
import java.util.regex.Matcher;
import java.util.regex.Pattern;

/** What README.md shows: each line of its Java stands here too, and answers what is written behind it. */
public final class ReadmeTest {
    private ReadmeTest() {
    }

    static int tell(WeepingPiano piano, int k, String text) {
        for (int from = 0; from < text.length(); from += 20) {
            int[] five = new int[5];
            for (int i = 0; i < 20; i++) {
                int sign = from + i < text.length() ? text.charAt(from + i) : ' ';
                five[i / 4] = five[i / 4] << 8 | sign;
            }
            piano.feed(five[0], five[1], five[2], five[3], five[4]);
        }
        piano.end(text.length());
        return piano.text(k);
    }

    private static void shown() {
        WeepingPiano piano = new WeepingPiano();
        int piece = piano.piece(3, 5, 2);
        int player = piano.player(4, 1);
        int wept = piano.play(player, piece);
        int water = piano.look(2);
        boolean undone = piano.undo();
        Check.due("piece, player, wept, water", piece + player + wept * 100 + water, 2424);
        Check.due("undone", undone && piano.of(0, 3) == 0, true);
        int law = tell(piano, 0, "weeps sad*2 when minute<2;weeps sad;settles 5+fire;");
        int programme = tell(piano, 1, "on 0 player 0 piece 0 0;");
        int care = tell(piano, 2, "on 1 child 9;on 1 fire 3;");
        Check.due("lines", law * 100 + programme * 10 + care, 312);
        int played = piano.days(2);
        int between = piano.book(1, 3);
        int fire = piano.look(5);
        Check.due("played, between, fire", played * 100 + between * 10 + fire, 232);
        int lines = tell(piano, 0, "weeps 1/0;");
        int fault = piano.fault(0);
        int place = piano.fault(1);
        Check.due("a text that can't be", lines, WeepingPiano.NONE);
        Check.due("fault and place", fault * 10 + place, 28);
        int later = piano.goes(3, 0);
        int moved = piano.chords(0b10010001, 0b1000100001, 0);
        int ways = piano.bar(4, 0b111, 0);
        Check.due("moved, ways", moved * 10 + ways, 57);
        piano.days(3);
        Check.due("water in three days", later, piano.look(2));
    }

    private static String flat(String s) {
        return s.replaceAll("//.*", "").replaceAll("\\s+", " ").trim();
    }

    private static void everyLineStandsHere(String readme) throws IOException {
        String here = flat(Files.readString(Path.of("src/test/java/ReadmeTest.java")));
        Matcher blocks = Pattern.compile("(?s)```java\n(.*?)```").matcher(readme);
        int lines = 0;
        while (blocks.find()) {
            for (String line : blocks.group(1).split("\n")) {
                Check.due("stands here: " + line, here.contains(flat(line)), true);
                lines++;
            }
        }
        Check.due("lines are shown", lines > 20, true);
    }

    /** Each call of the face is told of, with as many arguments. */
    private static void everyCallIsToldOf(String readme) {
        for (Method m : WeepingPiano.class.getDeclaredMethods()) {
            if (!Modifier.isPublic(m.getModifiers())) continue;
            String arguments = "\\w+(, \\w+){" + (m.getParameterCount() - 1) + "}";
            String call = "`" + m.getName() + "\\(" + (m.getParameterCount() == 0 ? "" : arguments) + "\\)`";
            Check.due("README.md tells of " + call, Pattern.compile(call).matcher(readme).find(), true);
        }
    }

    public static void main(String[] args) throws IOException {
        String readme = Files.readString(Path.of("README.md"));
        shown();
        everyLineStandsHere(readme);
        everyCallIsToldOf(readme);
        Check.close();
    }
}
