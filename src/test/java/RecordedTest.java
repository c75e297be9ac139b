import java.lang.reflect.Method;
import java.lang.reflect.Modifier;
import java.nio.file.Files;
import java.nio.file.Path;
import java.util.HashMap;
import java.util.List;
import java.util.Map;

/**
 * Runs of calls with the answers of a model that was written anew from the document, in another
 * language and by other means than SlackRace and PlainModel. A line is "new", or a call, its
 * numbers, "=" and the answer that is due.
 */
public final class RecordedTest {
    private static final Path RUNS = Path.of("src/test/runs/recorded.txt");

    public static void main(String[] args) throws Exception {
        Map<String, Method> face = new HashMap<>();
        for (Method method : SlackRace.class.getDeclaredMethods()) {
            if (Modifier.isPublic(method.getModifiers())) {
                face.put(method.getName(), method);
            }
        }
        Due due = new Due();
        SlackRace x = new SlackRace();
        int run = 0;
        List<String> lines = Files.readAllLines(RUNS);
        for (int i = 0; i < lines.size(); i++) {
            String line = lines.get(i);
            if (line.equals("new")) {
                x = new SlackRace();
                run++;
                continue;
            }
            String[] words = line.split(" ");
            Object[] numbers = new Object[words.length - 3];
            for (int k = 0; k < numbers.length; k++) {
                numbers[k] = Integer.parseInt(words[k + 1]);
            }
            Number got = (Number) face.get(words[0]).invoke(x, numbers);
            due.is("run " + run + ", line " + (i + 1) + ": " + line, got.longValue(),
                    Long.parseLong(words[words.length - 1]));
        }
        due.is("runs", run, 70);
        due.close("RecordedTest");
    }
}
