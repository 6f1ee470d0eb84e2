import java.io.IOException;
import java.nio.charset.StandardCharsets;
import java.nio.file.Files;
import java.nio.file.Path;
import java.util.ArrayList;
import java.util.List;

/**
 * What the tests by sentences share: each test stands under a section of the document and the words that it tests.
 * With the path of DOC.md the words must stand there, in their order, with no words between them left out.
 */
abstract class SentenceTest {
    static final int UNKNOWN = -1, OUTSIDE = -2, STATE = -3, FULL = -4, NO = -5, NONE = -6;
    static final int MIN = Integer.MIN_VALUE, MAX = Integer.MAX_VALUE;
    /** Numbers that look like good ones if only some of their bits are looked at. */
    static final int[] WRAPPED = {MIN, MIN + 1, -32, 32, 33, 64, 256, 1 << 16, 1 << 30, MAX - 1, MAX};

    /** The section that tells the whole in short, so that most of its words are tested under the other ones. */
    static final String SUMMARY = "What it is";

    private static final List<String> sections = new ArrayList<>();
    private static final List<String> sentences = new ArrayList<>();
    private static int wrong = 0;
    private static int right = 0;

    static void due(String what, long got, long want) {
        if (got == want) {
            right++;
        } else {
            wrong++;
            int last = sentences.size() - 1;
            System.out.println(sections.get(last) + ", '" + sentences.get(last) + "': " + what + " answered " + got
                + ", due is " + want);
        }
    }

    static void same(String what, String got, String want) {
        due(what + ": '" + got + "', not '" + want + "'", got.equals(want) ? 1 : 0, 1);
    }

    static void says(String section, String words, Runnable test) {
        sections.add(section);
        sentences.add(words);
        int before = right + wrong;
        test.run();
        if (right + wrong == before) {
            due("a test that asks nothing", 0, 1);
        }
    }

    static void end(String name, String[] args) throws IOException {
        if (args.length > 0) {
            standInTheDocument(Files.readString(Path.of(args[0]), StandardCharsets.UTF_8));
        }
        System.out.println(name + ": " + sentences.size() + " sentences, " + right + " passed, " + wrong + " failed");
        if (wrong != 0) {
            System.exit(1);
        }
    }

    // ---- the words of the document

    private static void standInTheDocument(String document) {
        String at = "";
        String rest = "";
        for (int n = 0; n < sentences.size(); n++) {
            if (!at.equals(sections.get(n))) {
                nothingLeft(at, rest);
                at = sections.get(n);
                rest = section(document, at);
            }
            int found = rest.indexOf(sentences.get(n));
            if (found < 0) {
                wrong++;
                System.out.println("not in the document, " + at + ": " + sentences.get(n));
            } else {
                nothingLeft(at, rest.substring(0, found));
                rest = rest.substring(found + sentences.get(n).length());
            }
        }
        nothingLeft(at, rest);
    }

    /** The words of a section without the signatures and without what is said of the interface's order. */
    private static String section(String document, String name) {
        int begin = document.indexOf("## " + name);
        int end = begin < 0 ? -1 : document.indexOf("\n## ", begin);
        if (begin < 0 || end < 0) {
            return "";
        }
        String text = document.substring(document.indexOf('\n', begin), end);
        return text.replaceAll("(?m)^Ahead of the calls .*$", "").replaceAll("(?m)^```\\w*$", "")
            .replaceAll("(?m)^`[^`]*\\)`:", "").replaceAll("\\s+", " ");
    }

    private static void nothingLeft(String section, String words) {
        if (!section.equals(SUMMARY) && words.matches(".*[A-Za-z].*")) {
            wrong++;
            System.out.println("without a test, " + section + ": " + words);
        }
    }

    // ---- objects and questions

    static void type(StoryNest x, String text) {
        x.wipe();
        for (char c : text.toCharArray()) {
            x.say(c);
        }
    }

    static StoryNest padded(String text) {
        StoryNest x = new StoryNest();
        type(x, text);
        return x;
    }

    static StoryNest nest(String... stories) {
        StoryNest x = new StoryNest();
        for (int s = 0; s < stories.length; s++) {
            write(x, s, stories[s]);
        }
        return x;
    }

    static void write(StoryNest x, int story, String text) {
        type(x, text);
        due("story " + text, x.story(story), text.replace(":", "").length());
    }

    static void good(StoryNest x, String... evenings) {
        for (String e : evenings) {
            type(x, e);
            due("place of " + e, x.judge(0), NONE);
            due("why of " + e, x.judge(1), NONE);
        }
    }

    /** The last part of each evening is the first one that can not be. */
    static void bad(StoryNest x, int why, String... evenings) {
        for (String e : evenings) {
            type(x, e);
            due("place of " + e, x.judge(0), e.length() - 1);
            due("why of " + e, x.judge(1), why);
        }
    }

    static void of(StoryNest x, String evening, int what, int want) {
        type(x, evening);
        due("evening(" + what + ") of " + evening, x.evening(what), want);
    }

    static void heard(StoryNest x, String wall, long want) {
        type(x, wall);
        due("heard of " + wall, x.heard(), want);
    }

    static String shortest(StoryNest x, int set, int deep) {
        StringBuilder all = new StringBuilder();
        for (int i = 0; i < 17 && x.shortest(set, deep, i) >= 0; i++) {
            all.append((char) x.shortest(set, deep, i));
        }
        return all.toString();
    }

    static String first(StoryNest x, String wall) {
        type(x, wall);
        StringBuilder all = new StringBuilder();
        for (int i = 0; i < 17 && x.first(i) >= 0; i++) {
            all.append((char) x.first(i));
        }
        return all.toString();
    }

    static String ends(StoryNest x, int story, int set, int deep) {
        StringBuilder all = new StringBuilder();
        for (int i = 0; i < 150 && x.ends(story, set, deep, i) >= 0; i++) {
            all.append(i == 0 ? "" : " ").append(x.ends(story, set, deep, i));
        }
        return all.toString();
    }

    /** Six waits of the stories 0 and 1, whose numbers 0 to 5 are due. */
    static void sixWaitsOf(StoryNest x) {
        int n = 0;
        for (int s = 0; s < 2; s++) {
            for (int o = 0; o < 4; o++) {
                if (s != o) {
                    due("wait " + s + " " + o, x.wait(s, 0, o), n++);
                }
            }
        }
    }
}
