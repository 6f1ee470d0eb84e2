import java.io.IOException;
import java.io.PrintStream;
import java.nio.charset.StandardCharsets;
import java.nio.file.Files;
import java.nio.file.Path;
import java.util.ArrayList;
import java.util.List;
import java.util.concurrent.Callable;
import java.util.concurrent.ExecutorService;
import java.util.concurrent.Executors;
import java.util.concurrent.Future;
import java.util.concurrent.TimeUnit;
import java.util.regex.Matcher;
import java.util.regex.Pattern;
import javax.tools.ToolProvider;

/**
 * Not a test but a look at the tests, to be run by hand (some minutes): breaks StoryNest.java in one small place
 * after the other and prints each broken one that no test by sentences finds.
 * Arguments: the file StoryNest.java, the directory of the compiled tests, a directory to work in.
 */
public final class StoryNestMutants {
    private static final int MOST_SECONDS = 60;
    private static final String[][] SWAPS = {
        {"(?<![<>=])<(?![<=])", "<="}, {"<=", "<"}, {"(?<![-<>=])>(?![>=])", ">="}, {"(?<![>])>=", ">"},
        {"==", "!="}, {"!=", "=="}, {"&&", "||"}, {"\\|\\|", "&&"}, {"(?<![+])\\+(?![+=])", "-"},
        {"(?<![-=(,:?] ?)-(?![-=>])", "+"}, {"\\+=", "-="}, {"\\+\\+", "--"}, {"--", "++"},
        {"(?<![<])<<(?![<])", ">>"}, {"(?<![>])>>(?![>])", "<<"}, {"(?<![&])&(?![&])", "|"},
        {"(?<![|])\\|(?![|=])", "&"}, {"\\|=", "="}, {"Math\\.max", "Math.min"}, {"Math\\.min", "Math.max"},
        {"\\btrue\\b", "false"}, {"\\bfalse\\b", "true"}, {"!(?=[a-zA-Z(])", ""}, {"\\bUNKNOWN;", "OUTSIDE;"},
        {"\\bOUTSIDE;", "UNKNOWN;"}, {"\\bSTATE;", "NO;"}, {"\\bNO;", "STATE;"}, {"\\bFULL;", "NO;"},
        {"\\bNONE\\b", "STATE"}, {"\\bALL\\b", "7"}, {"\\bSTORIES\\b", "3"}, {"\\bINNER\\b", "OUTER"},
        {"\\bOUTER\\b", "INNER"}, {"\\bANY\\b", "OUTER"}, {"\\bif \\(", "if (false && "},
        {"\\b(continue|break);", ";"}, {"nights\\.forget\\(\\);", ";"}};

    private record Mutant(int line, String was, String is, String source) {
    }

    /** Runs the tests by sentences in one machine; they exit with 1 at the first one that fails. */
    public static final class Runner {
        public static void main(String[] args) throws IOException {
            System.setOut(new PrintStream(PrintStream.nullOutputStream()));
            StoryNestSentences.main(new String[0]);
            StoryNestTerms.main(new String[0]);
        }
    }

    public static void main(String[] args) throws Exception {
        String source = Files.readString(Path.of(args[0]), StandardCharsets.UTF_8);
        Path work = Path.of(args[2]);
        List<Mutant> all = mutants(source);
        ExecutorService pool = Executors.newFixedThreadPool(Math.max(1, Runtime.getRuntime().availableProcessors()));
        List<Future<String>> ends = new ArrayList<>();
        for (int n = 0; n < all.size(); n++) {
            Mutant m = all.get(n);
            Path own = work.resolve("m" + n);
            Callable<String> task = () -> end(m, own, args[1]);
            ends.add(pool.submit(task));
        }
        int found = 0;
        int none = 0;
        for (int n = 0; n < all.size(); n++) {
            String end = ends.get(n).get();
            found += end.equals("found") ? 1 : 0;
            none += end.equals("no program") ? 1 : 0;
            if (end.equals("NOT FOUND")) {
                System.out.println(all.get(n).line() + ": " + all.get(n).was() + "\n    -> " + all.get(n).is());
            }
        }
        pool.shutdown();
        System.out.println(all.size() + " mutants, " + found + " found, " + none + " are no programs, "
            + (all.size() - found - none) + " not found");
    }

    private static List<Mutant> mutants(String source) {
        List<Mutant> all = new ArrayList<>();
        String[] lines = source.split("\n");
        for (int i = 0; i < lines.length; i++) {
            String line = lines[i];
            if (line.trim().startsWith("//") || line.trim().startsWith("*") || line.trim().startsWith("/*")) {
                continue;
            }
            for (String[] swap : SWAPS) {
                Matcher at = Pattern.compile(swap[0]).matcher(line);
                while (at.find()) {
                    add(all, lines, i, line.substring(0, at.start()) + swap[1] + line.substring(at.end()));
                }
            }
            Matcher number = Pattern.compile("(?<![\\w'.])\\d+(?![\\w'])").matcher(line);
            while (number.find()) {
                int value = Integer.parseInt(number.group());
                add(all, lines, i, line.substring(0, number.start()) + (value + 1) + line.substring(number.end()));
                add(all, lines, i, line.substring(0, number.start()) + (value - 1) + line.substring(number.end()));
            }
            if (line.matches(" +[\\w.\\[\\] *+]+( [-+|&]?= .*|\\+\\+|--|\\(.*\\));")) {
                add(all, lines, i, "");
            }
        }
        return all;
    }

    private static void add(List<Mutant> all, String[] lines, int at, String line) {
        String was = lines[at];
        lines[at] = line;
        all.add(new Mutant(at + 1, was.trim(), line.trim(), String.join("\n", lines)));
        lines[at] = was;
    }

    private static String end(Mutant m, Path own, String tests) throws Exception {
        Files.createDirectories(own);
        Path file = own.resolve("StoryNest.java");
        Files.writeString(file, m.source());
        PrintStream quiet = new PrintStream(PrintStream.nullOutputStream());
        int made = ToolProvider.getSystemJavaCompiler().run(null, quiet, quiet, "-nowarn", "-d", own.toString(),
            file.toString());
        if (made != 0) {
            return "no program";
        }
        Process run = new ProcessBuilder("java", "-XX:TieredStopAtLevel=1", "-XX:+UseSerialGC", "-Xshare:auto", "-cp",
            own + java.io.File.pathSeparator + tests, "StoryNestMutants$Runner")
            .redirectErrorStream(true).redirectOutput(ProcessBuilder.Redirect.DISCARD).start();
        boolean ended = run.waitFor(MOST_SECONDS, TimeUnit.SECONDS);
        if (!ended) {
            run.destroyForcibly();
        }
        return ended && run.exitValue() == 0 ? "NOT FOUND" : "found";
    }
}
