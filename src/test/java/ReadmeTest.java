import java.io.IOException;
import java.nio.file.Files;
import java.nio.file.Path;
import java.util.regex.Matcher;
import java.util.regex.Pattern;

/** Every call of README.md's example answers what the README says behind it. */
final class ReadmeTest {
    private static final Pattern CALL =
            Pattern.compile("x\\.(\\w+)\\(([^)]*)\\);(?:\\s*// (true|false|-?\\d+)(?::.*)?)?");

    public static void main(String[] args) throws IOException {
        Due due = new Due("ReadmeTest");
        PipeWorks x = new PipeWorks();
        for (String line : example(Files.readString(Path.of("README.md")))) {
            if (line.equals("PipeWorks x = new PipeWorks();")) {
                continue;
            }
            Matcher call = CALL.matcher(line);
            due.is("\"" + line + "\" is a call with its answer", call.matches(), true);
            if (call.matches()) {
                String got = answer(x, call.group(1), arguments(call.group(2)));
                String want = call.group(3) == null ? "nothing" : call.group(3);
                due.is("\"" + line + "\" (it answered " + got + ") is as told", got.equals(want), true);
            }
        }
        due.end();
    }

    private static String[] example(String readme) {
        String begin = "```java\n";
        int from = readme.indexOf(begin) + begin.length();
        return readme.substring(from, readme.indexOf("\n```", from)).split("\n");
    }

    private static int[] arguments(String text) {
        if (text.isEmpty()) {
            return new int[0];
        }
        String[] parts = text.split(", ");
        int[] numbers = new int[parts.length];
        for (int i = 0; i < parts.length; i++) {
            numbers[i] = (int) (long) Long.decode(parts[i]);
        }
        return numbers;
    }

    private static String answer(PipeWorks x, String name, int[] a) {
        switch (name) {
            case "word": return String.valueOf(x.word(a[0], a[1]));
            case "data": return String.valueOf(x.data(a[0], a[1]));
            case "set": return String.valueOf(x.set(a[0], a[1]));
            case "clock": return String.valueOf(x.clock(a[0]));
            case "register": return String.valueOf(x.register(a[0]));
            case "memory": return String.valueOf(x.memory(a[0]));
            case "state": return String.valueOf(x.state(a[0]));
            case "reset":
                x.reset();
                return "nothing";
            default: return "no such call";
        }
    }
}
