import java.lang.reflect.Method;
import java.nio.file.Files;
import java.nio.file.Path;
import java.util.List;
import java.util.regex.Matcher;
import java.util.regex.Pattern;

/** Every call that README.md shows, in its order, answers what stands behind it there. */
public final class ReadmeTest {
    private static final Check CHECK = new Check();
    private static final Pattern SHOWN = Pattern.compile("x\\.(\\w+)\\(([^)]*)\\); +// (-?\\d+|true|false)\\b.*");

    public static void main(String[] args) throws Exception {
        List<String> lines = Files.readAllLines(Path.of("README.md"));
        NearSpell x = null;
        int shown = 0;
        for (String line : lines) {
            if (line.equals("NearSpell x = new NearSpell();")) {
                x = new NearSpell();
            } else if (line.startsWith("x.")) {
                Matcher call = SHOWN.matcher(line);
                boolean told = x != null && call.matches();
                CHECK.due("tells its answer: " + line, told, true);
                if (told) {
                    CHECK.due(line, answerOf(x, call.group(1), call.group(2)), numberOf(call.group(3)));
                    shown++;
                }
            }
        }
        CHECK.due("some calls are shown", shown > 20, true);
        CHECK.due("how the tests are run", lines.contains(".ci/run"), true);
        namesTests(lines);
        CHECK.finish();
    }

    private static void namesTests(List<String> lines) throws Exception {
        try (var files = Files.newDirectoryStream(Path.of("src/test/java"), "*Test.java")) {
            for (Path file : files) {
                String name = file.getFileName().toString().replace(".java", "");
                CHECK.due("a row for " + name, lines.stream().anyMatch(line -> line.startsWith("| " + name + " |")), true);
            }
        }
    }

    private static long answerOf(NearSpell x, String name, String told) throws Exception {
        String[] arguments = told.isEmpty() ? new String[0] : told.split(", ");
        for (Method m : NearSpell.class.getMethods()) {
            if (m.getName().equals(name) && m.getParameterCount() == arguments.length) {
                Object[] values = new Object[arguments.length];
                for (int i = 0; i < values.length; i++) {
                    boolean truth = m.getParameterTypes()[i] == boolean.class;
                    values[i] = truth ? (Object) arguments[i].equals("true") : (Object) Integer.decode(arguments[i]);
                }
                return numberOf(String.valueOf(m.invoke(x, values)));
            }
        }
        CHECK.due("there is a call " + name, false, true);
        return 0;
    }

    private static long numberOf(String answer) {
        if (answer.equals("true") || answer.equals("false")) {
            return answer.equals("true") ? 1 : 0;
        }
        return Long.parseLong(answer);
    }
}
