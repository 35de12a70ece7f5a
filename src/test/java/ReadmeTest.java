import java.io.IOException;
import java.lang.reflect.Method;
import java.lang.reflect.Modifier;
import java.nio.file.Files;
import java.nio.file.Path;
import java.util.Arrays;
import java.util.regex.Matcher;
import java.util.regex.Pattern;

/** What README.md says of the class: its examples' answers, its numbers, and the calls it names. */
public final class ReadmeTest {
    private static final Path README = Path.of("README.md");
    private static final Pattern TEXT =
        Pattern.compile("for \\(char c : \"([^\"]*)\"\\.toCharArray\\(\\)\\) x\\.type\\((\\d), c\\);.*");
    private static final Pattern CALL = Pattern.compile("x\\.(\\w+)\\(([-\\d, ]*)\\);\\s+// (-?\\d+): .*");

    private static SoldWithIt x = null;
    private static int wrong = 0;
    private static int asked = 0;

    public static void main(String[] args) throws Exception {
        String readme = read();
        boolean example = false;
        for (String line : readme.split("\n")) {
            if (line.startsWith("```")) {
                example = line.equals("```java");
            } else if (example) {
                follow(line);
            }
        }
        namesAllCalls(readme);
        namesAllRefusals(readme);
        System.out.println(asked + " answers of README.md asked, " + wrong + " faults");
        if (wrong != 0 || asked == 0) {
            System.exit(1);
        }
    }

    private static String read() {
        try {
            return Files.readString(README);
        } catch (IOException e) {
            throw new IllegalStateException(e);
        }
    }

    private static void fault(String what) {
        wrong++;
        System.out.println(what);
    }

    private static void follow(String line) throws Exception {
        Matcher text = TEXT.matcher(line);
        Matcher call = CALL.matcher(line);
        if (line.equals("SoldWithIt x = new SoldWithIt();")) {
            x = new SoldWithIt();
        } else if (text.matches()) {
            for (char c : text.group(1).toCharArray()) {
                x.type(Integer.parseInt(text.group(2)), c);
            }
        } else if (call.matches()) {
            ask(line, call);
        } else {
            fault("an example that this test cannot follow: " + line);
        }
    }

    private static void ask(String line, Matcher call) throws Exception {
        String[] told = call.group(2).isEmpty() ? new String[0] : call.group(2).split(", ");
        Class<?>[] types = new Class<?>[told.length];
        Arrays.fill(types, int.class);
        Object[] numbers = new Object[told.length];
        for (int i = 0; i < told.length; i++) {
            numbers[i] = Integer.parseInt(told[i]);
        }
        Object answer = SoldWithIt.class.getMethod(call.group(1), types).invoke(x, numbers);
        asked++;
        if (!String.valueOf(answer).equals(call.group(3))) {
            fault("answered " + answer + ": " + line);
        }
    }

    private static void namesAllCalls(String readme) {
        for (Method method : SoldWithIt.class.getDeclaredMethods()) {
            if (Modifier.isPublic(method.getModifiers()) && !readme.contains("`" + method.getName() + "`")) {
                fault("README.md does not name " + method.getName());
            }
        }
    }

    private static void namesAllRefusals(String readme) {
        String[] due = {"`NONE` " + SoldWithIt.NONE, "`BAD` " + SoldWithIt.BAD, "`NOT` " + SoldWithIt.NOT,
            "`FULL` " + SoldWithIt.FULL};
        for (String name : due) {
            if (!readme.contains(name)) {
                fault("README.md does not say " + name);
            }
        }
    }
}
