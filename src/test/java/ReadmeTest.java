import java.io.IOException;
import java.lang.reflect.Method;
import java.lang.reflect.Modifier;
import java.nio.file.Files;
import java.nio.file.Path;
import java.util.List;
import java.util.Set;
import java.util.TreeSet;
import java.util.regex.Matcher;
import java.util.regex.Pattern;

/** README.md: each answer of its example is the one that the class gives; its command is the one that runs all tests. */
public final class ReadmeTest {
    private static final Due DUE = new Due("ReadmeTest");
    private static final Path README = Path.of("README.md");
    private static final Path COMMAND = Path.of(".ci/run");
    private static final Pattern SIGNS = Pattern.compile("for \\(char sign : \"(.*)\"\\.toCharArray\\(\\)\\) \\{");
    private static final Pattern CALL = Pattern.compile("parish\\.(\\w+)\\(([-0-9, ]*)\\); +// (-?\\d+)(?: \\((\\w+)\\))?(?:: .*)?");
    private static final Set<String> OTHER_LINES = Set.of("DogVotes parish = new DogVotes();", "parish.say(sign);", "}");

    private final DogVotes parish = new DogVotes();
    private final Set<String> called = new TreeSet<>();

    public static void main(String[] args) throws IOException, ReflectiveOperationException {
        String text = Files.readString(README);
        new ReadmeTest().follow(block(text, "java"));
        DUE.holds("the README tells the command that runs all tests", block(text, "sh").equals(List.of("bash " + COMMAND)));
        DUE.holds("that command is there to run", Files.isExecutable(COMMAND));
        DUE.end();
    }

    private static List<String> block(String text, String language) {
        Matcher block = Pattern.compile("```" + language + "\n(.*?)```", Pattern.DOTALL).matcher(text);
        return block.find() ? block.group(1).lines().map(String::strip).filter(line -> !line.isEmpty()).toList() : List.of();
    }

    private void follow(List<String> lines) throws ReflectiveOperationException {
        for (String line : lines) {
            Matcher signs = SIGNS.matcher(line);
            Matcher call = CALL.matcher(line);
            if (signs.matches()) {
                Due.write(parish, signs.group(1));
                called.add("say");
            } else if (call.matches()) {
                compare(call);
            } else {
                DUE.holds("'" + line + "' is read", OTHER_LINES.contains(line) || line.startsWith("// "));
            }
        }
        for (Method method : DogVotes.class.getDeclaredMethods()) {
            if (Modifier.isPublic(method.getModifiers())) {
                DUE.holds(method.getName() + " is in the example", called.contains(method.getName()));
            }
        }
    }

    private void compare(Matcher call) throws ReflectiveOperationException {
        String name = call.group(1);
        String[] numbers = call.group(2).isBlank() ? new String[0] : call.group(2).split(", ");
        Class<?>[] types = new Class<?>[numbers.length];
        Object[] values = new Object[numbers.length];
        for (int k = 0; k < numbers.length; k++) {
            types[k] = int.class;
            values[k] = Integer.valueOf(numbers[k]);
        }
        Number answer = (Number) DogVotes.class.getMethod(name, types).invoke(parish, values);
        long told = Long.parseLong(call.group(3));
        DUE.is(name + "(" + call.group(2) + ") in the README", answer.longValue(), told);
        if (call.group(4) != null) {
            DUE.is("the README's " + call.group(4), DogVotes.class.getField(call.group(4)).getInt(null), told);
        }
        called.add(name);
    }
}
