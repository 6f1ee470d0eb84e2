import java.io.IOException;
import java.lang.reflect.Method;
import java.lang.reflect.Modifier;
import java.nio.charset.StandardCharsets;
import java.nio.file.Files;
import java.nio.file.Path;
import java.util.Set;
import java.util.TreeSet;
import java.util.regex.Matcher;
import java.util.regex.Pattern;

/** What README.md (the first argument) says is so: its example call by call; no call and no test is missing there. */
public final class StoryNestReadme {
    private static final Pattern TYPED = Pattern.compile("^for \\(char c : \"([^\"]*)\"\\.toCharArray.* x\\.say\\(c\\);");
    private static final Pattern ASKED = Pattern.compile("^x\\.(\\w+)\\(([-0-9, ]*)\\);\\s*// ('.'|-?\\w+)");

    private static int wrong = 0;
    private static int right = 0;

    private static void due(String what, boolean holds) {
        if (holds) {
            right++;
        } else {
            wrong++;
            System.out.println(what);
        }
    }

    public static void main(String[] args) throws Exception {
        String readme = Files.readString(Path.of(args[0]), StandardCharsets.UTF_8);
        example(readme);
        everyCallIsNamed(readme);
        everyTestIsNamed(readme, Path.of(args[1]));
        System.out.println("readme: " + right + " passed, " + wrong + " failed");
        if (wrong != 0) {
            System.exit(1);
        }
    }

    private static void example(String readme) throws Exception {
        int begin = readme.indexOf("```java");
        int end = readme.indexOf("\n```", begin);
        StoryNest x = new StoryNest();
        int asked = 0;
        for (String line : readme.substring(begin, end).split("\n")) {
            Matcher typed = TYPED.matcher(line);
            Matcher call = ASKED.matcher(line);
            if (typed.find()) {
                for (char c : typed.group(1).toCharArray()) {
                    x.say(c);
                }
            } else if (call.find()) {
                asked++;
                long got = answer(x, call.group(1), call.group(2));
                due(line + " answers " + got, got == number(call.group(3)));
            } else {
                due("no call: " + line, line.isBlank() || line.matches("```java|StoryNest x = .*|//.*"));
            }
        }
        due("the example asks little", asked >= 20);
    }

    private static long number(String text) throws Exception {
        if (text.startsWith("'")) {
            return text.charAt(1);
        }
        return text.matches("-?\\d+") ? Long.parseLong(text) : StoryNest.class.getField(text).getInt(null);
    }

    private static long answer(StoryNest x, String name, String arguments) throws Exception {
        String[] texts = arguments.isBlank() ? new String[0] : arguments.split(", *");
        Object[] values = new Object[texts.length];
        Class<?>[] kinds = new Class<?>[texts.length];
        for (int i = 0; i < texts.length; i++) {
            values[i] = Integer.parseInt(texts[i]);
            kinds[i] = int.class;
        }
        return ((Number) StoryNest.class.getMethod(name, kinds).invoke(x, values)).longValue();
    }

    private static void everyCallIsNamed(String readme) {
        Set<String> names = new TreeSet<>();
        for (Method m : StoryNest.class.getDeclaredMethods()) {
            if (Modifier.isPublic(m.getModifiers())) {
                names.add(m.getName());
            }
        }
        for (String name : names) {
            due("README.md does not name " + name, readme.contains("`" + name + "("));
        }
    }

    private static void everyTestIsNamed(String readme, Path tests) throws IOException {
        try (var files = Files.list(tests)) {
            for (Path file : files.toList()) {
                String name = file.getFileName().toString().replace(".java", "");
                due("README.md does not name " + name, readme.contains("`" + name));
            }
        }
    }
}
