import java.io.IOException;
import java.nio.ByteBuffer;
import java.nio.charset.StandardCharsets;
import java.nio.file.Files;
import java.nio.file.Path;
import java.util.Arrays;
import java.util.regex.Matcher;
import java.util.regex.Pattern;

/** What README.md says of its calls is so: it is read, and its calls are made. */
public final class ReadmeTest {
    private static final Pattern TEXT = Pattern.compile("tell\\(x, \"(.*)\"\\);");
    private static final Pattern CALL = Pattern.compile("x\\.(\\w+)\\(([-0-9, ]*)\\);\\s+// (-?\\d+).*");

    public static void main(String[] args) throws IOException {
        String page = Files.readString(Path.of(System.getProperty("toffee.readme", "README.md")));
        ToffeeTown x = new ToffeeTown();
        int calls = 0;
        for (String line : page.split("\n")) {
            Matcher text = TEXT.matcher(line);
            Matcher call = CALL.matcher(line);
            if (text.matches()) {
                tell(x, text.group(1));
                Due.due("bytes of " + line, x.count(15), text.group(1).length());
            } else if (call.matches()) {
                Due.answers(x, Integer.parseInt(call.group(3)), call.group(1), numbers(call.group(2)));
                calls++;
            } else {
                Due.due("a call without its answer: " + line, line.startsWith("x.") || line.startsWith("tell(") ? 1 : 0, 0);
            }
        }
        Due.due("calls of README.md", calls >= 15 ? 1 : 0, 1);
        names(page);
        Due.end();
    }

    /** The table has each call of the face. */
    private static void names(String page) {
        Arrays.stream(ToffeeTown.class.getMethods()).filter(m -> m.getDeclaringClass() == ToffeeTown.class)
                .forEach(m -> Due.due(m.getName(), page.contains("`" + m.getName() + "`") ? 1 : 0, 1));
    }

    private static int[] numbers(String list) {
        return list.isBlank() ? new int[0] : Arrays.stream(list.split(", ")).mapToInt(Integer::parseInt).toArray();
    }

    /** As README.md has it. */
    private static void tell(ToffeeTown x, String text) {
        ByteBuffer bytes = ByteBuffer.allocate(420).put(text.getBytes(StandardCharsets.ISO_8859_1)).rewind();
        x.end(0);
        for (int at = 0; at < text.length(); at += 20) {
            x.feed(bytes.getInt(), bytes.getInt(), bytes.getInt(), bytes.getInt(), bytes.getInt());
        }
        x.end(text.length());
    }
}
