import java.io.PrintWriter;
import java.io.StringWriter;
import java.lang.reflect.Constructor;
import java.lang.reflect.Field;
import java.lang.reflect.Method;
import java.lang.reflect.Modifier;
import java.nio.charset.StandardCharsets;
import java.nio.file.Files;
import java.nio.file.Path;
import java.util.Arrays;
import java.util.HashMap;
import java.util.HashSet;
import java.util.Map;
import java.util.Set;
import java.util.TreeSet;
import java.util.spi.ToolProvider;
import java.util.regex.Matcher;
import java.util.regex.Pattern;

/** The rules of LANGUAGE.md, as far as a text search and reflection can see them; the file is the first argument. */
public final class StoryNestLanguage {
    private static final String[] FACE = {
        "int about(int,int)", "int drop(int)", "int dropped(int)", "int ends(int,int,int,int)", "int evening(int)",
        "int fault(int)", "int first(int)", "int image(int)", "int judge(int)", "int knows(int,int)",
        "int left(int,int)", "int restore(int)", "int rings()", "int say(int)", "int set(int,int)",
        "int shortest(int,int,int)", "int story(int)", "int teller(int,int)", "int told(int)",
        "int turns(int,int,int,int)", "int wait(int,int,int)", "int who(int)", "int wipe()",
        "long heard()", "long ways(int,int)"};
    private static final String[] NUMBERS = {"UNKNOWN", "OUTSIDE", "STATE", "FULL", "NO", "NONE"};

    private static int wrong = 0;

    private static void rule(int number, boolean holds, String what) {
        if (!holds) {
            wrong++;
            System.out.println("rule " + number + ": " + what);
        }
    }

    public static void main(String[] args) throws Exception {
        String source = Files.readString(Path.of(args[0]), StandardCharsets.UTF_8);
        face();
        for (Class<?> c : StoryNest.class.getDeclaredClasses()) {
            nested(c);
        }
        rule(11, StoryNest.class.getDeclaredClasses().length < 12, "too many classes");
        words(source);
        lengths(source);
        depths();
        System.out.println(wrong == 0 ? "the rules hold" : wrong + " faults against the rules");
        if (wrong != 0) {
            System.exit(1);
        }
    }

    private static String sign(Method m) {
        StringBuilder s = new StringBuilder(m.getReturnType().getName()).append(' ').append(m.getName()).append('(');
        for (Class<?> p : m.getParameterTypes()) {
            s.append(s.charAt(s.length() - 1) == '(' ? "" : ",").append(p.getName());
        }
        return s.append(')').toString();
    }

    private static void face() throws Exception {
        Class<?> c = StoryNest.class;
        rule(1, c.getModifiers() == (Modifier.PUBLIC | Modifier.FINAL), "public and final");
        rule(1, c.getDeclaredConstructors().length == 1, "one constructor");
        for (Constructor<?> made : c.getDeclaredConstructors()) {
            rule(1, made.getModifiers() == Modifier.PUBLIC && made.getParameterCount() == 0, "its constructor");
        }
        Set<String> seen = new TreeSet<>();
        Set<String> names = new HashSet<>();
        for (Method m : c.getDeclaredMethods()) {
            if (Modifier.isPublic(m.getModifiers())) {
                rule(1, m.getModifiers() == Modifier.PUBLIC, "plainly public: " + m);
                seen.add(sign(m));
                names.add(m.getName());
            }
        }
        rule(1, seen.equals(new TreeSet<>(Arrays.asList(FACE))), "the face: " + seen);
        for (Method m : c.getDeclaredMethods()) {
            boolean open = Modifier.isPublic(m.getModifiers());
            rule(1, open || Modifier.isPrivate(m.getModifiers()), "neither public nor private: " + m);
            rule(1, open || !names.contains(m.getName()), "private with a public name: " + m);
        }
        for (int i = 0; i < NUMBERS.length; i++) {
            rule(1, c.getField(NUMBERS[i]).getInt(null) == -1 - i, NUMBERS[i]);
        }
        rule(1, c.getFields().length == NUMBERS.length, "public fields");
        for (Class<?> in : c.getDeclaredClasses()) {
            for (Method m : in.getDeclaredMethods()) {
                rule(1, !names.contains(m.getName()), "an inner method with a public name: " + m);
            }
        }
        members(c);
    }

    private static void nested(Class<?> c) {
        int m = c.getModifiers();
        rule(1, Modifier.isStatic(m) && !Modifier.isPublic(m) && !Modifier.isProtected(m), "class " + c);
        members(c);
    }

    private static void members(Class<?> c) {
        int own = 0;
        for (Field f : c.getDeclaredFields()) {
            boolean isStatic = Modifier.isStatic(f.getModifiers());
            own += isStatic ? 0 : 1;
            rule(5, !isStatic || Modifier.isFinal(f.getModifiers()), "static and not final: " + f);
        }
        rule(11, own <= 20, "fields of " + c);
        for (Method m : c.getDeclaredMethods()) {
            rule(11, m.getParameterCount() <= 7, "parameters of " + m);
        }
    }

    /** Rules 8 and 11: the calls that stand open at once, by what javap tells of the compiled classes. */
    private static void depths() throws Exception {
        if (ToolProvider.findFirst("javap").isEmpty()) {
            System.out.println("no javap here: how deep calls go is not looked at");
            return;
        }
        Map<String, Set<String>> calls = new HashMap<>();
        gatherCalls(StoryNest.class, calls);
        for (Class<?> c : StoryNest.class.getDeclaredClasses()) {
            gatherCalls(c, calls);
        }
        for (String method : calls.keySet()) {
            rule(11, depth(method, calls, 1) <= 8, "calls more than eight deep from " + method);
        }
    }

    private static void gatherCalls(Class<?> c, Map<String, Set<String>> calls) {
        StringWriter text = new StringWriter();
        PrintWriter to = new PrintWriter(text);
        Path home = Path.of(System.getProperty("java.class.path"));
        ToolProvider.findFirst("javap").get().run(to, to, "-p", "-c", home.resolve(c.getName() + ".class").toString());
        Pattern method = Pattern.compile("^  \\S.*?([\\w$]+)\\(.*\\);$");
        Pattern call = Pattern.compile("// (?:Interface)?Method (?:(StoryNest[\\w$]*)\\.)?\"?([\\w<>]+)\"?:");
        String now = "";
        for (String line : text.toString().split("\n")) {
            Matcher begin = method.matcher(line);
            Matcher called = call.matcher(line);
            if (begin.find()) {
                now = c.getName() + "." + (begin.group(1).equals(c.getName()) ? "<init>" : begin.group(1));
                calls.computeIfAbsent(now, n -> new HashSet<>());
            } else if (called.find() && calls.containsKey(now)) {
                calls.get(now).add((called.group(1) == null ? c.getName() : called.group(1)) + "." + called.group(2));
            }
        }
    }

    private static int depth(String method, Map<String, Set<String>> calls, int above) {
        int deepest = above;
        for (String next : calls.getOrDefault(method, Set.of())) {
            if (calls.containsKey(next) && above <= 8) {
                deepest = Math.max(deepest, depth(next, calls, above + 1));
            }
        }
        return deepest;
    }

    private static void words(String source) {
        for (char ch : source.toCharArray()) {
            rule(4, ch == '\n' || ch >= 32 && ch < 127, "sign " + (int) ch);
        }
        String code = source.replaceAll("(?s)/\\*.*?\\*/", "").replaceAll("//[^\n]*", "");
        String[] never = {"throw", "throws", "try", "catch", "finally", "synchronized", "assert", "native", "volatile",
            "package", "import", "hashCode", "toString", "Object", "System", "Thread", "Exception", "Error", "yield"};
        for (String word : never) {
            rule(6, !Pattern.compile("\\b" + word + "\\b").matcher(code).find(), "the word " + word);
        }
        rule(2, !code.contains("->") && !code.contains("::"), "a lambda or a method reference");
        rule(4, !Pattern.compile("\\w+Exact\\b").matcher(code).find(), "a name that ends in Exact");
        rule(5, !Pattern.compile("\\bstatic\\s*\\{").matcher(code).find(), "a static block");
        Matcher call = Pattern.compile("\\b(Math|Integer|Long|String|Arrays)\\.(\\w+)").matcher(code);
        while (call.find()) {
            rule(4, Arrays.asList("max", "min", "bitCount").contains(call.group(2)), "the library's " + call.group());
        }
    }

    private static void lengths(String source) {
        int begin = 0;
        String[] lines = source.split("\n");
        for (int i = 0; i < lines.length; i++) {
            if (lines[i].matches(" +.*\\) \\{") && !lines[i].trim().matches("(\\} else )?(if|for|while|switch) .*")) {
                begin = i;
            }
            rule(11, lines[i].length() <= 120, "a line of " + lines[i].length() + " signs: " + (i + 1));
            boolean methodEnds = lines[i].equals("    }") || lines[i].equals("        }");
            rule(11, !methodEnds || i - begin < 60, "a long method at line " + (begin + 1));
        }
    }
}
