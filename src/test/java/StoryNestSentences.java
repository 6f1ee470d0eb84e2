import java.io.IOException;

/** The promises, sentence by sentence: what each call answers at its edges, and each way in which it is refused. */
public final class StoryNestSentences extends SentenceTest {
    public static void main(String[] args) throws IOException {
        says(SUMMARY, "An object is used for at most 512 calls after it has been made",
            StoryNestSentences::allCallsCount);
        stories();
        waitsAndLaws();
        evenings();
        out();
        turnsAndRings();
        heard();
        leftAndImages();
        end("sentences", args);
    }

    private static void allCallsCount() {
        StoryNest x = new StoryNest();
        for (int n = 0; n < 256; n++) {
            due("call " + (2 * n + 1), x.set(0, n % 3), n == 0 ? 0 : (n - 1) % 3);
            due("call " + (2 * n + 2), x.ways(15, 1 + n % 4), 24);
        }
        StoryNest y = new StoryNest();
        for (int n = 0; n < 511; n++) {
            due("call " + (n + 1), y.set(1, (n + 5) % 10), n == 0 ? 0 : (n + 4) % 10);
        }
        due("call 512", y.shortest(3, 1, -1), 7);
    }

    // ---- promises 1 to 8

    private static void stories() {
        says("Promise 1", "Four STORIES of one minute, no WAITS; the PAD is empty.", StoryNestSentences::newObject);
        says("Promise 2", "A sign more: how many.", StoryNestSentences::sayCounts);
        says("Promise 2", "OUTSIDE;", StoryNestSentences::sayOutside);
        says("Promise 2", "FULL.", StoryNestSentences::sayFull);
        says("Promise 3", "Signs go: how many there were.", StoryNestSentences::wipeCounts);
        says("Promise 4", "THE FAULT; NONE.", StoryNestSentences::faultOrNone);
        says("Promise 4", "OUTSIDE: how.", StoryNestSentences::faultOutside);
        says("Promise 5", "The PAD becomes a STORY (it is empty then): how many PARTS;",
            StoryNestSentences::padBecomesStory);
        says("Promise 5", "WAITS of its PARTS beyond the last one go.", StoryNestSentences::waitsBeyondGo);
        says("Promise 5", "UNKNOWN;", StoryNestSentences::storyUnknown);
        says("Promise 5", "NO: there is a FAULT.", StoryNestSentences::storyNo);
        says("Promise 6", "Of a STORY: 0 how many PARTS, 1 all its minutes, 2 GATES as bits,",
            StoryNestSentences::aboutAll);
        says("Promise 6", "10 to 13 minutes of PARTS (NONE).", StoryNestSentences::aboutParts);
        says("Promise 6", "UNKNOWN;", StoryNestSentences::aboutUnknown);
        says("Promise 6", "OUTSIDE.", StoryNestSentences::aboutOutside);
        says("Promise 7", "A STORY's TELLER: who it was.", StoryNestSentences::tellerWas);
        says("Promise 7", "UNKNOWN.", StoryNestSentences::tellerUnknown);
        says("Promise 8", "What a TELLER KNOWS: which it was.", StoryNestSentences::knowsWas);
        says("Promise 8", "UNKNOWN;", StoryNestSentences::knowsUnknown);
        says("Promise 8", "OUTSIDE.", StoryNestSentences::knowsOutside);
    }

    private static void newObject() {
        StoryNest x = new StoryNest();
        for (int s = 0; s < 4; s++) {
            due("parts of " + s, x.about(s, 0), 1);
            due("minutes of " + s, x.about(s, 1), 1);
        }
        due("waits", x.told(1), 0);
        due("the first wait", x.told(30), NONE);
        due("no wait to drop", x.drop(0), UNKNOWN);
        due("signs", x.told(0), 0);
        due("no sign to wipe", x.wipe(), 0);
        due("two objects have nothing in common", padded("abc").told(0) + new StoryNest().told(0), 3);
    }

    private static void sayCounts() {
        StoryNest x = new StoryNest();
        due("the first", x.say('a'), 1);
        due("the second", x.say('a'), 2);
        x.wipe();
        due("the first again", x.say('1'), 1);
        x.story(0);
        due("the first behind a story", x.say('1'), 1);
    }

    private static void sayOutside() {
        StoryNest x = new StoryNest();
        due("32", x.say(32), OUTSIDE);
        due("33", x.say(33), 1);
        due("126", x.say(126), 2);
        due("127", x.say(127), OUTSIDE);
        for (int sign : new int[] {0, -1, -33, 128, 65536 + 33, MIN, MAX}) {
            due("" + sign, x.say(sign), OUTSIDE);
        }
    }

    private static void sayFull() {
        StoryNest x = padded("abcdefghijklmnopqrstuvwxyzabc");
        due("the 30th", x.say('d'), 30);
        due("the 31st", x.say('e'), FULL);
        due("the 31st, the least sign", x.say(33), FULL);
        due("a sign that is none", x.say(32), OUTSIDE);
        due("30 stay", x.wipe(), 30);
        due("room again", x.say('e'), 1);
    }

    private static void wipeCounts() {
        StoryNest x = new StoryNest();
        due("an empty pad", x.wipe(), 0);
        x.say('a');
        due("one sign", x.wipe(), 1);
        due("gone", x.wipe(), 0);
        due("no sign told", x.told(0), 0);
        type(x, "abcdabcdabcdabcdabcdabcdabcdab");
        due("a full pad", x.wipe(), 30);
        x.say('2');
        due("nothing stays of the signs before", x.fault(0), NONE);
    }

    private static void faultOrNone() {
        due("no fault of a story", padded("1:234").fault(0), NONE);
        due("no fault of an evening", padded("abcd").fault(1), NONE);
        due("no fault of a wall", padded("1234").fault(2), NONE);
        due("the first place", padded("a").fault(0), 0);
        due("the last place", padded("1234a").fault(0), 4);
        due("behind the last sign", padded("123:").fault(0), 4);
    }

    private static void faultOutside() {
        for (String pad : new String[] {"", "1", "a"}) {
            due("-1", padded(pad).fault(-1), OUTSIDE);
            due("3", padded(pad).fault(3), OUTSIDE);
            due("the least", padded(pad).fault(MIN), OUTSIDE);
            due("the most", padded(pad).fault(MAX), OUTSIDE);
        }
    }

    private static void padBecomesStory() {
        StoryNest x = padded("1:2:3:4");
        due("four parts", x.story(3), 4);
        due("the pad is empty", x.told(0), 0);
        due("its minutes", x.about(3, 1), 10);
        due("empty, so not again", x.story(3), NO);
        x.say('9');
        due("one part", x.story(3), 1);
        due("its minutes now", x.about(3, 1), 9);
        due("no second part now", x.about(3, 11), NONE);
        due("no gates now", x.about(3, 2), 0);
        due("the others are as they were", x.about(0, 1) + x.about(1, 1) + x.about(2, 1), 3);
        due("asked before", x.ends(3, 8, 1, 0), 9);
        due("asked before", x.ways(9, 2), 2);
        write(x, 3, "2:3");
        due("asked behind it", x.ends(3, 8, 1, 0), 5);
        due("asked behind it", x.ways(9, 2), 3);
        due("the first story, asked before", x.ends(0, 1, 1, 0), 1);
        write(x, 0, "2:3");
        due("the first story, asked behind it", x.ends(0, 1, 1, 0), 5);
    }

    private static void waitsBeyondGo() {
        StoryNest x = nest("1:1:1:1", "1:1:1:1");
        x.wait(0, 3, 1);
        x.wait(0, 1, 1);
        x.wait(1, 3, 0);
        x.wait(0, 2, 3);
        x.wait(0, 0, 2);
        x.wait(0, 2, 1);
        write(x, 0, "55");
        due("three stay", x.told(1), 3);
        due("of the last part", x.told(30), 11);
        due("of another story", x.told(31), 130);
        due("of the first part", x.told(32), 2);
        due("no more", x.told(33), NONE);
        write(x, 0, "5:5:5:5");
        due("they do not come back", x.told(1), 3);
        good(x, "cbbb");
        bad(x, 5, "a", "cbbbb", "caa");
        StoryNest y = nest("1:1");
        y.wait(0, 1, 1);
        y.wait(1, 0, 0);
        write(y, 0, "9");
        due("waits for it stay", y.told(30), 100);
        due("the number behind it", y.wait(0, 0, 2), 1);
        due("none goes by as many parts", y.told(1), 2);
        write(y, 0, "8");
        due("none goes by as many parts, anew", y.told(1), 2);
        StoryNest z = nest("1:1:1");
        z.wait(0, 2, 1);
        bad(z, 5, "aaa");
        write(z, 0, "1:1");
        write(z, 0, "1:1:1");
        good(z, "aaa");
        due("of the wait nothing stays", z.ways(3, 1), 2);
    }

    private static void storyUnknown() {
        StoryNest x = padded("1:1");
        due("-1", x.story(-1), UNKNOWN);
        due("4", x.story(4), UNKNOWN);
        for (int s : WRAPPED) {
            due("" + s, x.story(s), UNKNOWN);
        }
        due("the pad stays", x.told(0), 3);
        due("3", x.story(3), 2);
    }

    private static void storyNo() {
        for (String pad : new String[] {"", ":", "0", "1:", "1::1", "12345", "1:2:3:4:", "a", "1a", "1 ".replace(' ', '!')}) {
            StoryNest x = padded(pad);
            due("'" + pad + "'", x.story(0), NO);
            due("the pad stays", x.told(0), pad.length());
            due("the story stays", x.about(0, 0), 1);
        }
        StoryNest y = padded("1:");
        y.story(0);
        y.say('2');
        due("the rest comes behind it", y.story(0), 2);
        due("its minutes", y.about(0, 1), 3);
    }

    private static void aboutAll() {
        StoryNest x = nest("9:99:9", "1", "12");
        due("parts", x.about(0, 0), 4);
        due("minutes", x.about(0, 1), 36);
        due("gates", x.about(0, 2), 5);
        due("parts of one", x.about(1, 0), 1);
        due("minutes of one", x.about(1, 1), 1);
        due("gates of one", x.about(1, 2), 0);
        due("minutes of two", x.about(2, 1), 3);
        due("gates of two", x.about(2, 2), 0);
        write(x, 0, "1:1:1:1");
        due("all gates", x.about(0, 2), 7);
    }

    private static void aboutParts() {
        StoryNest x = nest("1", "23", "4:5:6", "7:8:9:1");
        int[][] minutes = {{1}, {2, 3}, {4, 5, 6}, {7, 8, 9, 1}};
        for (int s = 0; s < 4; s++) {
            for (int p = 0; p < 4; p++) {
                due("part " + p + " of " + s, x.about(s, 10 + p), p < minutes[s].length ? minutes[s][p] : NONE);
            }
        }
        write(x, 3, "5");
        due("no part that was", x.about(3, 11), NONE);
    }

    private static void aboutUnknown() {
        StoryNest x = new StoryNest();
        for (int what : new int[] {0, 1, 2, 10, 13, 3, 14, -1}) {
            due("-1", x.about(-1, what), UNKNOWN);
            due("4", x.about(4, what), UNKNOWN);
            for (int s : WRAPPED) {
                due("" + s, x.about(s, what), UNKNOWN);
            }
        }
    }

    private static void aboutOutside() {
        StoryNest x = new StoryNest();
        for (int what : new int[] {-1, 3, 4, 9, 14, 15, MIN, MIN + 10, MAX}) {
            due("" + what, x.about(0, what), OUTSIDE);
            due("" + what, x.about(3, what), OUTSIDE);
        }
    }

    private static void tellerWas() {
        StoryNest x = new StoryNest();
        due("at first", x.teller(3, 0), 3);
        due("then", x.teller(3, 0), 0);
        due("then", x.teller(3, 3), 0);
        due("told", x.told(13), 3);
        due("another one's", x.told(10), 0);
    }

    private static void tellerUnknown() {
        StoryNest x = new StoryNest();
        due("story -1", x.teller(-1, 0), UNKNOWN);
        due("story 4", x.teller(4, 0), UNKNOWN);
        due("teller -1", x.teller(0, -1), UNKNOWN);
        due("teller 4", x.teller(0, 4), UNKNOWN);
        due("both", x.teller(4, 4), UNKNOWN);
        for (int n : WRAPPED) {
            due("story " + n, x.teller(n, 0), UNKNOWN);
            due("teller " + n, x.teller(0, n), UNKNOWN);
        }
        for (int s = 0; s < 4; s++) {
            due("as it was", x.told(10 + s), s);
        }
    }

    private static void knowsWas() {
        StoryNest x = new StoryNest();
        due("at first", x.knows(3, 0), 8);
        due("nothing", x.knows(3, 15), 0);
        due("all", x.knows(3, 15), 15);
        due("told", x.told(23), 15);
        due("another one's", x.told(22), 4);
    }

    private static void knowsUnknown() {
        StoryNest x = new StoryNest();
        for (int stories : new int[] {0, 15, 16, -1}) {
            due("-1", x.knows(-1, stories), UNKNOWN);
            due("4", x.knows(4, stories), UNKNOWN);
            for (int t : WRAPPED) {
                due("" + t, x.knows(t, stories), UNKNOWN);
            }
        }
    }

    private static void knowsOutside() {
        StoryNest x = new StoryNest();
        for (int stories : new int[] {-1, 16, 17, 31, MIN, MAX}) {
            due("" + stories, x.knows(1, stories), OUTSIDE);
        }
        due("as it was", x.told(21), 2);
    }

    // ---- promises 9 to 11

    private static void waitsAndLaws() {
        says("Promise 9", "A WAIT more: its number.", StoryNestSentences::waitNumbers);
        says("Promise 9", "UNKNOWN: the STORY, the PART, the other STORY (also itself);",
            StoryNestSentences::waitUnknown);
        says("Promise 9", "NO: it is there already;", StoryNestSentences::waitNo);
        says("Promise 9", "FULL.", StoryNestSentences::waitFull);
        says("Promise 10", "A WAIT goes (those behind it move up): how many are left.", StoryNestSentences::dropMovesUp);
        says("Promise 10", "UNKNOWN.", StoryNestSentences::dropUnknown);
        says("Promise 11", "0 THE LAW, 1 BREATH: which it was.", StoryNestSentences::setWas);
        says("Promise 11", "OUTSIDE.", StoryNestSentences::setOutside);
    }

    private static void waitNumbers() {
        StoryNest x = nest("1:1:1:1", "1", "1", "1:1:1:1");
        due("the first", x.wait(0, 0, 1), 0);
        due("of the last part", x.wait(0, 3, 3), 1);
        due("of the last story", x.wait(3, 3, 0), 2);
        due("told", x.told(30), 1);
        due("told", x.told(31), 33);
        due("told", x.told(32), 330);
        x.drop(1);
        due("behind those that are left", x.wait(2, 0, 1), 2);
        due("how many", x.told(1), 3);
    }

    private static void waitUnknown() {
        StoryNest x = nest("1:1", "1:1:1:1");
        due("story -1", x.wait(-1, 0, 1), UNKNOWN);
        due("story 4", x.wait(4, 0, 1), UNKNOWN);
        due("part -1", x.wait(0, -1, 1), UNKNOWN);
        due("part 2 of two", x.wait(0, 2, 1), UNKNOWN);
        due("part 3 of two", x.wait(0, 3, 1), UNKNOWN);
        due("part 4 of four", x.wait(1, 4, 0), UNKNOWN);
        due("part 10", x.wait(0, 10, 1), UNKNOWN);
        due("part 1 of one", x.wait(2, 1, 1), UNKNOWN);
        due("other -1", x.wait(0, 0, -1), UNKNOWN);
        due("other 4", x.wait(0, 0, 4), UNKNOWN);
        for (int n : WRAPPED) {
            due("story " + n, x.wait(n, 0, 1), UNKNOWN);
            due("part " + n, x.wait(0, n, 1), UNKNOWN);
            due("other " + n, x.wait(0, 0, n), UNKNOWN);
        }
        for (int s = 0; s < 4; s++) {
            due("itself", x.wait(s, 0, s), UNKNOWN);
        }
        due("no wait is there", x.told(1), 0);
        due("the last part", x.wait(1, 3, 0), 0);
        due("the last part of two", x.wait(0, 1, 3), 1);
    }

    private static void waitNo() {
        StoryNest x = nest("1:1", "1:1");
        due("a wait", x.wait(0, 0, 1), 0);
        due("there already", x.wait(0, 0, 1), NO);
        due("another part", x.wait(0, 1, 1), 1);
        due("another one to wait for", x.wait(0, 0, 2), 2);
        due("another story", x.wait(1, 0, 2), 3);
        due("the other way", x.wait(1, 0, 0), 4);
        due("the first again", x.wait(0, 0, 1), NO);
        due("the last again", x.wait(1, 0, 0), NO);
        due("five", x.told(1), 5);
        due("another part's again", x.wait(0, 1, 1), NO);
        due("another part and another one", x.wait(0, 1, 2), 5);
        due("these again", x.wait(0, 1, 2), NO);
        x.drop(0);
        due("no more there", x.wait(0, 0, 1), 5);
    }

    private static void waitFull() {
        StoryNest x = nest("1:1");
        sixWaitsOf(x);
        due("the seventh", x.wait(0, 1, 1), FULL);
        due("of another story", x.wait(3, 0, 1), FULL);
        due("there already", x.wait(0, 0, 1), NO);
        due("no such part", x.wait(0, 2, 1), UNKNOWN);
        due("six", x.told(1), 6);
        due("it does not count", x.rings() >> 8 & 1, 0);
    }

    private static void dropMovesUp() {
        StoryNest x = nest("1:1");
        sixWaitsOf(x);
        due("the first", x.drop(0), 5);
        due("moved up", x.told(30), 2);
        due("moved up", x.told(34), 103);
        due("no sixth", x.told(35), NONE);
        due("the last", x.drop(4), 4);
        due("stays", x.told(30), 2);
        due("the one before stays", x.told(33), 102);
        due("no fifth", x.told(34), NONE);
        due("one between", x.drop(1), 3);
        due("stays", x.told(30), 2);
        due("moved up", x.told(31), 100);
        due("moved up", x.told(32), 102);
        due("three", x.told(1), 3);
        x.drop(0);
        x.drop(0);
        due("the only one", x.drop(0), 0);
        due("none is told", x.told(30), NONE);
        good(x, "ab", "baa");
        x.wait(0, 0, 1);
        due("asked before", x.ways(3, 1), 1);
        x.drop(0);
        due("asked behind it", x.ways(3, 1), 2);
    }

    private static void dropUnknown() {
        StoryNest x = new StoryNest();
        due("0 of none", x.drop(0), UNKNOWN);
        due("-1 of none", x.drop(-1), UNKNOWN);
        x.wait(0, 0, 1);
        due("-1", x.drop(-1), UNKNOWN);
        due("1 of one", x.drop(1), UNKNOWN);
        due("5 of one", x.drop(5), UNKNOWN);
        for (int n : WRAPPED) {
            due("" + n, x.drop(n), UNKNOWN);
        }
        due("one", x.told(1), 1);
        StoryNest y = new StoryNest();
        sixWaitsOf(y);
        due("6 of six", y.drop(6), UNKNOWN);
        due("5 of six", y.drop(5), 5);
        due("5 of five", y.drop(5), UNKNOWN);
    }

    private static void setWas() {
        StoryNest x = new StoryNest();
        due("law at first", x.set(0, 2), 0);
        due("law then", x.set(0, 1), 2);
        due("law then", x.set(0, 0), 1);
        due("breath at first", x.set(1, 9), 0);
        due("breath then", x.set(1, 0), 9);
        due("law is", x.told(2), 0);
        due("breath is", x.told(3), 0);
        x.set(0, 2);
        x.set(1, 5);
        due("each has its own", x.told(2), 2);
        due("each has its own", x.told(3), 5);
    }

    private static void setOutside() {
        StoryNest x = new StoryNest();
        due("law -1", x.set(0, -1), OUTSIDE);
        due("law 3", x.set(0, 3), OUTSIDE);
        due("breath -1", x.set(1, -1), OUTSIDE);
        due("breath 10", x.set(1, 10), OUTSIDE);
        due("which -1", x.set(-1, 0), OUTSIDE);
        due("which 2", x.set(2, 0), OUTSIDE);
        for (int n : WRAPPED) {
            due("which " + n, x.set(n, 1), OUTSIDE);
            due("law " + n, x.set(0, n), OUTSIDE);
            due("breath " + n, x.set(1, n), OUTSIDE);
        }
        due("law stays", x.told(2), 0);
        due("breath stays", x.told(3), 0);
    }

    // ---- promises 12 and 13

    private static void evenings() {
        says("Promise 12", "The EVENING on the PAD JUDGED: the place (what = 0), why (1);",
            StoryNestSentences::judgePlaceAndWhy);
        says("Promise 12", "NONE: it is good.", StoryNestSentences::judgeNone);
        says("Promise 12", "OUTSIDE;", StoryNestSentences::judgeOutside);
        says("Promise 12", "NO: there is a FAULT.", StoryNestSentences::judgeNo);
        says("Promise 13", "Of the EVENING on the PAD: OPEN ones (what = 0), DEEP (1), minutes (2).",
            StoryNestSentences::eveningAll);
        says("Promise 13", "OUTSIDE;", StoryNestSentences::eveningOutside);
        says("Promise 13", "NO: there is a FAULT;", StoryNestSentences::eveningNo);
        says("Promise 13", "STATE: it is not good.", StoryNestSentences::eveningState);
    }

    private static void judgePlaceAndWhy() {
        StoryNest x = nest("1:1", "1:1");
        bad(x, 2, "aba");
        bad(x, 1, "aaa");
        x.wait(3, 0, 0);
        bad(x, 5, "d");
        due("the pad stays", x.told(0), 1);
        x.drop(0);
        due("judged anew", x.judge(0), NONE);
    }

    private static void judgeNone() {
        StoryNest x = new StoryNest();
        good(x, "", "a", "d", "dcba");
    }

    private static void judgeOutside() {
        for (String pad : new String[] {"", "a", "aa", "x"}) {
            StoryNest x = padded(pad);
            due("-1", x.judge(-1), OUTSIDE);
            due("2", x.judge(2), OUTSIDE);
            for (int what : WRAPPED) {
                due("" + what, x.judge(what), OUTSIDE);
            }
        }
    }

    private static void judgeNo() {
        for (String pad : new String[] {"1", "e", "aa1", "abcd1", "abcdabcdabcdabcda", "A"}) {
            due(pad, padded(pad).judge(0), NO);
            due(pad, padded(pad).judge(1), NO);
        }
    }

    private static void eveningAll() {
        StoryNest x = nest("2:3", "4:5", "6");
        x.set(1, 7);
        type(x, "abc");
        due("open", x.evening(0), 3);
        due("deep", x.evening(1), 3);
        due("minutes", x.evening(2), 2 + 7 + 4 + 7 + 6);
        type(x, "");
        due("open of none", x.evening(0), 0);
        due("deep of none", x.evening(1), 0);
        due("minutes of none", x.evening(2), 0);
        StoryNest y = nest("9:9:9:9", "9:9:9:9", "9:9:9:9", "9:9:9:9");
        y.set(0, 2);
        y.set(1, 9);
        type(y, "abcdabcdabcdabcd");
        due("open of most", y.evening(0), 0);
        due("deep of most", y.evening(1), 4);
        due("minutes of most", y.evening(2), 144 + 15 * 9);
    }

    private static void eveningOutside() {
        for (String pad : new String[] {"", "a", "aa", "x"}) {
            StoryNest x = padded(pad);
            due("-1", x.evening(-1), OUTSIDE);
            due("3", x.evening(3), OUTSIDE);
            for (int what : WRAPPED) {
                due("" + what, x.evening(what), OUTSIDE);
            }
        }
    }

    private static void eveningNo() {
        for (String pad : new String[] {"1", "e", "a1", "aa1", "abcdabcdabcdabcda"}) {
            for (int what = 0; what < 3; what++) {
                due(pad, padded(pad).evening(what), NO);
            }
        }
    }

    private static void eveningState() {
        for (String pad : new String[] {"aa", "abcda", "abcdabcdabcdabcd"}) {
            for (int what = 0; what < 3; what++) {
                due(pad, padded(pad).evening(what), STATE);
            }
        }
        StoryNest x = padded("a");
        x.wait(0, 0, 1);
        due("the first part waits", x.evening(0), STATE);
    }

    // ---- promises 14 to 16

    private static void out() {
        says("Promise 14", "OUT of a set, no deeper than so many: how many EVENINGS.", StoryNestSentences::waysCount);
        says("Promise 14", "OUTSIDE.", StoryNestSentences::waysOutside);
        says("Promise 15", "The least minutes of these (i = -1), the i-th letter (its code) of the first such EVENING;",
            StoryNestSentences::shortestLetters);
        says("Promise 15", "NONE.", StoryNestSentences::shortestNone);
        says("Promise 15", "OUTSIDE.", StoryNestSentences::shortestOutside);
        says("Promise 16", "ENDS of a STORY: how many minutes there are (i = -1), the i-th (rising);",
            StoryNestSentences::endsRise);
        says("Promise 16", "NONE.", StoryNestSentences::endsNone);
        says("Promise 16", "UNKNOWN: also it is not of the set;", StoryNestSentences::endsUnknown);
        says("Promise 16", "OUTSIDE.", StoryNestSentences::endsOutside);
    }

    private static void waysCount() {
        StoryNest x = nest("1:1", "1:1", "1", "1");
        due("one", x.ways(1, 1), 1);
        due("two, one open", x.ways(3, 1), 2);
        due("two, two open", x.ways(3, 2), 4);
        due("two, more than can be open", x.ways(3, 4), 4);
        due("a story of one part in another one is deep, too", x.ways(5, 1), 2);
        due("a story of one part in another one", x.ways(5, 2), 3);
        x.wait(0, 0, 1);
        x.wait(1, 0, 0);
        due("none", x.ways(3, 4), 0);
    }

    private static void waysOutside() {
        StoryNest x = new StoryNest();
        due("set 0", x.ways(0, 1), OUTSIDE);
        due("set 16", x.ways(16, 1), OUTSIDE);
        due("set -1", x.ways(-1, 1), OUTSIDE);
        due("deep 0", x.ways(15, 0), OUTSIDE);
        due("deep 5", x.ways(15, 5), OUTSIDE);
        due("deep -1", x.ways(15, -1), OUTSIDE);
        for (int n : WRAPPED) {
            due("set " + n, x.ways(n, 1), OUTSIDE);
            due("deep " + n, x.ways(15, n), OUTSIDE);
        }
        due("set 15, deep 1", x.ways(15, 1), 24);
        due("set 1, deep 4", x.ways(1, 4), 1);
    }

    private static void shortestLetters() {
        StoryNest x = nest("2:3", "4");
        x.set(1, 6);
        due("minutes", x.shortest(3, 2, -1), 15);
        due("letter 0", x.shortest(3, 2, 0), 97);
        due("letter 1", x.shortest(3, 2, 1), 97);
        due("letter 2", x.shortest(3, 2, 2), 98);
        due("the code of d", x.shortest(8, 1, 0), 100);
        StoryNest y = nest("1:1:1:1", "1:1:1:1", "1:1:1:1", "1:1:1:1");
        due("the last of 16", y.shortest(15, 4, 15), 100);
        same("all of 16", shortest(y, 15, 4), "aaaabbbbccccdddd");
    }

    private static void shortestNone() {
        StoryNest x = nest("2:3", "4");
        due("behind the last", x.shortest(1, 1, 2), NONE);
        due("far behind the last", x.shortest(1, 1, MAX), NONE);
        due("behind 16", nest("1111", "1111", "1111", "1111").shortest(15, 1, 16), NONE);
        x.wait(0, 0, 1);
        x.wait(1, 0, 0);
        for (int i : new int[] {-1, 0, 1, 2, 15, 16, MAX}) {
            due("no evening, " + i, x.shortest(3, 4, i), NONE);
        }
        due("of another set", x.shortest(1, 1, -1), 5);
    }

    private static void shortestOutside() {
        StoryNest x = new StoryNest();
        for (int i : new int[] {-1, 0, 3, 99}) {
            due("set 0", x.shortest(0, 1, i), OUTSIDE);
            due("set 16", x.shortest(16, 1, i), OUTSIDE);
            due("deep 0", x.shortest(15, 0, i), OUTSIDE);
            due("deep 5", x.shortest(15, 5, i), OUTSIDE);
        }
        for (int n : WRAPPED) {
            due("set " + n, x.shortest(n, 1, 0), OUTSIDE);
            due("deep " + n, x.shortest(15, n, 0), OUTSIDE);
        }
        due("i -2", x.shortest(15, 4, -2), OUTSIDE);
        due("the least i", x.shortest(15, 4, MIN), OUTSIDE);
    }

    private static void endsRise() {
        StoryNest x = nest("2:3", "1:4", "9");
        due("how many", x.ends(0, 7, 4, -1), ends(x, 0, 7, 4).split(" ").length);
        same("of a", ends(x, 0, 7, 4), "5 6 10 14 15 19");
        same("of c, one open", ends(x, 2, 7, 1), "9 14 19");
        due("how many of c", x.ends(2, 7, 1, -1), 3);
        due("the first", x.ends(2, 7, 1, 0), 9);
        due("the last", x.ends(2, 7, 1, 2), 19);
        same("of d", ends(new StoryNest(), 3, 15, 1), "1 2 3 4");
    }

    private static void endsNone() {
        StoryNest x = nest("2:3", "1:4", "9");
        due("behind the last", x.ends(2, 7, 1, 3), NONE);
        due("far behind the last", x.ends(2, 7, 1, MAX), NONE);
        x.wait(0, 0, 1);
        x.wait(1, 0, 0);
        due("no evening", x.ends(0, 3, 4, 0), NONE);
        due("no evening, how many", x.ends(0, 3, 4, -1), 0);
        due("no evening of a story that waits for none", x.ends(2, 7, 4, 0), NONE);
        due("of another set", x.ends(0, 1, 1, 0), 5);
    }

    private static void endsUnknown() {
        StoryNest x = new StoryNest();
        due("story -1", x.ends(-1, 15, 1, -1), UNKNOWN);
        due("story 4", x.ends(4, 15, 1, -1), UNKNOWN);
        for (int n : WRAPPED) {
            due("story " + n, x.ends(n, 15, 1, -1), UNKNOWN);
        }
        for (int set = 1; set <= 15; set++) {
            for (int s = 0; s < 4; s++) {
                boolean isOfIt = (set >> s & 1) == 1;
                due("story " + s + " of " + set, x.ends(s, set, 1, 0), isOfIt ? 1 : UNKNOWN);
            }
        }
        due("not of the set, ahead of deep", x.ends(0, 14, 9, -1), UNKNOWN);
        due("not of the set, ahead of i", x.ends(0, 14, 1, -2), UNKNOWN);
        due("of no set", x.ends(0, 0, 1, -1), UNKNOWN);
    }

    private static void endsOutside() {
        StoryNest x = new StoryNest();
        for (int i : new int[] {-1, 0, 9}) {
            due("deep 0", x.ends(0, 15, 0, i), OUTSIDE);
            due("deep 5", x.ends(0, 15, 5, i), OUTSIDE);
            due("set 17", x.ends(0, 17, 1, i), OUTSIDE);
            due("set -1", x.ends(0, -1, 1, i), OUTSIDE);
            due("the most set", x.ends(0, MAX, 1, i), OUTSIDE);
        }
        for (int n : WRAPPED) {
            due("deep " + n, x.ends(0, 15, n, 0), OUTSIDE);
        }
        due("i -2", x.ends(0, 15, 4, -2), OUTSIDE);
        due("the least i", x.ends(0, 15, 4, MIN), OUTSIDE);
    }

    // ---- promises 17 to 19

    private static void turnsAndRings() {
        says("Promise 17", "TURNS: whether side 0 can have it (what = 0: 1, 0), with which STORY it begins (1;",
            StoryNestSentences::turnsBoth);
        says("Promise 17", "NONE: it can not).", StoryNestSentences::turnsNone);
        says("Promise 17", "UNKNOWN, likewise;", StoryNestSentences::turnsUnknown);
        says("Promise 17", "OUTSIDE: minutes 0 to 144.", StoryNestSentences::turnsOutside);
        says("Promise 18", "RINGS: sets as bits (bit k less 1 for the set k).", StoryNestSentences::ringsAsBits);
        says("Promise 19", "DROPPED, as bits.", StoryNestSentences::droppedAsBits);
        says("Promise 19", "OUTSIDE.", StoryNestSentences::droppedOutside);
    }

    private static void turnsBoth() {
        StoryNest x = nest("23", "45", "6", "7");
        due("it can", x.turns(0, 15, 5, 0), 1);
        due("it begins", x.turns(0, 15, 5, 1), 0);
        due("d at once", x.turns(3, 15, 7, 0), 1);
        due("d begins", x.turns(3, 15, 7, 1), 3);
        due("it can not", x.turns(3, 15, 8, 0), 0);
    }

    private static void turnsNone() {
        StoryNest x = nest("23", "45", "6", "7");
        for (int minute : new int[] {0, 1, 6, 8, 144}) {
            due("d at " + minute, x.turns(3, 8, minute, 1), NONE);
            due("d at " + minute, x.turns(3, 8, minute, 0), 0);
        }
        x.wait(3, 0, 2);
        due("d waits", x.turns(3, 15, 7, 1), NONE);
        due("d waits for c, behind c", x.turns(3, 12, 13, 1), 2);
    }

    private static void turnsUnknown() {
        StoryNest x = new StoryNest();
        due("story -1", x.turns(-1, 15, 1, 0), UNKNOWN);
        due("story 4", x.turns(4, 15, 1, 0), UNKNOWN);
        for (int n : WRAPPED) {
            due("story " + n, x.turns(n, 15, 1, 0), UNKNOWN);
        }
        for (int set = 1; set <= 15; set++) {
            for (int s = 0; s < 4; s++) {
                boolean isOfIt = (set >> s & 1) == 1;
                due("story " + s + " of " + set, x.turns(s, set, 1, 0), isOfIt ? 1 : UNKNOWN);
            }
        }
        due("not of the set, ahead of the minute", x.turns(0, 14, 145, 0), UNKNOWN);
        due("not of the set, ahead of what", x.turns(0, 14, 1, 2), UNKNOWN);
        due("of no set", x.turns(0, 0, 1, 0), UNKNOWN);
    }

    private static void turnsOutside() {
        StoryNest x = new StoryNest();
        for (int what = 0; what < 2; what++) {
            due("minute -1", x.turns(0, 1, -1, what), OUTSIDE);
            due("minute 0", x.turns(0, 1, 0, what), what == 0 ? 0 : NONE);
            due("minute 144", x.turns(0, 1, 144, what), what == 0 ? 0 : NONE);
            due("minute 145", x.turns(0, 1, 145, what), OUTSIDE);
            due("the least minute", x.turns(0, 1, MIN, what), OUTSIDE);
            due("the most minute", x.turns(0, 1, MAX, what), OUTSIDE);
            due("set 17", x.turns(0, 17, 1, what), OUTSIDE);
            due("set -1", x.turns(0, -1, 1, what), OUTSIDE);
        }
        due("what -1", x.turns(0, 1, 1, -1), OUTSIDE);
        due("what 2", x.turns(0, 1, 1, 2), OUTSIDE);
        for (int n : WRAPPED) {
            due("what " + n, x.turns(0, 1, 1, n), OUTSIDE);
        }
    }

    private static void ringsAsBits() {
        StoryNest x = new StoryNest();
        due("none", x.rings(), 0);
        x.wait(2, 0, 3);
        due("one wait is no ring", x.rings(), 0);
        x.wait(3, 0, 2);
        due("sets 12 to 15", x.rings(), 1 << 11 | 1 << 12 | 1 << 13 | 1 << 14);
        x.wait(0, 0, 1);
        x.wait(1, 0, 0);
        due("also 3, 7 and 11", x.rings(), 1 << 2 | 1 << 6 | 1 << 10 | 15 << 11);
        x.wait(0, 0, 2);
        x.wait(2, 0, 0);
        due("also 5", x.rings(), 1 << 2 | 1 << 4 | 1 << 6 | 1 << 10 | 15 << 11);
    }

    private static void droppedAsBits() {
        StoryNest x = nest("1:1", "1:1");
        due("none", x.dropped(15), 0);
        x.wait(0, 0, 1);
        x.wait(3, 0, 2);
        x.wait(1, 0, 0);
        x.wait(0, 1, 1);
        due("the third", x.dropped(3), 4);
        x.wait(1, 1, 0);
        x.wait(2, 0, 3);
        due("the third and the fifth, or the first and the fourth", x.dropped(3), 9);
        due("the second", x.dropped(12), 2);
        due("all of these", x.dropped(15), 11);
        due("no wait has gone", x.told(1), 6);
    }

    private static void droppedOutside() {
        StoryNest x = new StoryNest();
        due("set 0", x.dropped(0), OUTSIDE);
        due("set 1", x.dropped(1), 0);
        due("set 15", x.dropped(15), 0);
        due("set 16", x.dropped(16), OUTSIDE);
        due("set -1", x.dropped(-1), OUTSIDE);
        for (int n : WRAPPED) {
            due("set " + n, x.dropped(n), OUTSIDE);
        }
    }

    // ---- promises 20 to 22

    private static void heard() {
        says("Promise 20", "HEARD by the WALL on the PAD: how many EVENINGS.", StoryNestSentences::heardCount);
        says("Promise 20", "NO: there is a FAULT.", StoryNestSentences::heardNo);
        says("Promise 21", "The i-th letter (its code) of the first of them;", StoryNestSentences::firstLetters);
        says("Promise 21", "NONE.", StoryNestSentences::firstNone);
        says("Promise 21", "NO: there is a FAULT.", StoryNestSentences::firstNo);
        says("Promise 22", "WHO, as bits;", StoryNestSentences::whoAsBits);
        says("Promise 22", "NONE: there is no such place.", StoryNestSentences::whoNone);
        says("Promise 22", "NO: there is a FAULT.", StoryNestSentences::whoNo);
    }

    private static void heardCount() {
        StoryNest x = new StoryNest();
        heard(x, "", 1);
        heard(x, "1", 4);
        heard(x, "1111", 24);
        heard(x, "11111", 0);
        heard(x, "2", 0);
        due("the pad stays", x.told(0), 1);
    }

    private static final String[] NO_WALLS = {"0", "a", "1a", ":", "1:1", "12345678912345678"};

    private static void heardNo() {
        for (String pad : NO_WALLS) {
            due(pad, padded(pad).heard(), NO);
        }
    }

    private static void firstLetters() {
        StoryNest x = nest("1:1", "2", "1");
        type(x, "121");
        due("letter 0", x.first(0), 97);
        due("letter 1", x.first(1), 98);
        due("letter 2", x.first(2), 97);
        same("all", first(x, "1211"), "abac");
        same("c and d are told at last", first(x, "11121"), "aacbd");
    }

    private static void firstNone() {
        StoryNest x = padded("11");
        due("behind the last", x.first(2), NONE);
        due("far behind the last", x.first(MAX), NONE);
        due("-1", x.first(-1), NONE);
        due("the least", x.first(MIN), NONE);
        type(x, "12");
        for (int i = -1; i < 3; i++) {
            due("no evening sounds so, " + i, x.first(i), NONE);
        }
        type(x, "");
        due("nothing was heard", x.first(0), NONE);
    }

    private static void firstNo() {
        for (String pad : NO_WALLS) {
            for (int i : new int[] {-1, 0, 1, 99}) {
                due(pad, padded(pad).first(i), NO);
            }
        }
    }

    private static void whoAsBits() {
        StoryNest x = nest("1:1", "2", "1");
        type(x, "12");
        due("place 0", x.who(0), 13);
        due("place 1", x.who(1), 2);
        type(x, "2111");
        due("place 0", x.who(0), 2);
        due("place 3", x.who(3), 13);
        type(x, "13");
        due("no evening sounds so", x.who(0), 0);
        due("no evening sounds so", x.who(1), 0);
    }

    private static void whoNone() {
        StoryNest x = padded("11");
        due("behind the last", x.who(2), NONE);
        due("-1", x.who(-1), NONE);
        for (int place : WRAPPED) {
            due("" + place, x.who(place), NONE);
        }
        due("the last", x.who(1), 15);
        type(x, "");
        due("nothing was heard", x.who(0), NONE);
        type(x, "13");
        due("no evening sounds so, behind the last", x.who(2), NONE);
    }

    private static void whoNo() {
        for (String pad : NO_WALLS) {
            for (int place : new int[] {-1, 0, 1, 99}) {
                due(pad, padded(pad).who(place), NO);
            }
        }
    }

    // ---- promises 23 to 26

    private static void leftAndImages() {
        says("Promise 23", "LEFT: STORIES (what = 0), CLOSED by (1), as bits.", StoryNestSentences::leftBoth);
        says("Promise 23", "UNKNOWN;", StoryNestSentences::leftUnknown);
        says("Promise 23", "OUTSIDE;", StoryNestSentences::leftOutside);
        says("Promise 23", "NO: there is a FAULT;", StoryNestSentences::leftNo);
        says("Promise 23", "STATE: the EVENING is not good.", StoryNestSentences::leftState);
        says("Promise 24", "All but the PAD is kept in an IMAGE (0, 1): 1.", StoryNestSentences::imageKeeps);
        says("Promise 24", "OUTSIDE.", StoryNestSentences::imageOutside);
        says("Promise 25", "It is as it was when it was kept: 1.", StoryNestSentences::restoreBrings);
        says("Promise 25", "OUTSIDE;", StoryNestSentences::restoreOutside);
        says("Promise 25", "STATE: it was not.", StoryNestSentences::restoreState);
        says("Promise 26", "0 signs, 1 WAITS, 2 THE LAW, 3 BREATH,", StoryNestSentences::toldNumbers);
        says("Promise 26", "10 to 13 TELLERS of STORIES,", StoryNestSentences::toldTellers);
        says("Promise 26", "20 to 23 what TELLERS KNOW,", StoryNestSentences::toldKnown);
        says("Promise 26", "30 to 35 WAITS: 100 times the STORY, 10 times the PART, and the other one",
            StoryNestSentences::toldWaits);
        says("Promise 26", "(NONE).", StoryNestSentences::toldNone);
        says("Promise 26", "OUTSIDE.", StoryNestSentences::toldOutside);
    }

    private static void leftBoth() {
        StoryNest x = nest("1:1", "1:1");
        type(x, "ab");
        due("his", x.left(0, 0), 1);
        due("his", x.left(1, 0), 2);
        due("none of his", x.left(3, 0), 0);
        due("closed by none", x.left(0, 1), 0);
        x.knows(2, 3);
        x.knows(3, 2);
        due("closed by c's", x.left(0, 1), 4);
        due("closed by both", x.left(1, 1), 12);
        due("nothing to close", x.left(3, 1), 4);
        due("the pad stays", x.told(0), 2);
    }

    private static void leftUnknown() {
        for (String pad : new String[] {"", "a", "aa", "x"}) {
            StoryNest x = padded(pad);
            for (int what = -1; what < 3; what++) {
                due("-1", x.left(-1, what), UNKNOWN);
                due("4", x.left(4, what), UNKNOWN);
            }
            for (int n : WRAPPED) {
                due("" + n, x.left(n, 0), UNKNOWN);
            }
        }
    }

    private static void leftOutside() {
        for (String pad : new String[] {"", "a", "aa", "x"}) {
            StoryNest x = padded(pad);
            due("-1", x.left(0, -1), OUTSIDE);
            due("2", x.left(3, 2), OUTSIDE);
            for (int n : WRAPPED) {
                due("" + n, x.left(0, n), OUTSIDE);
            }
        }
    }

    private static void leftNo() {
        for (String pad : new String[] {"1", "a1", "aa1", "abcdabcdabcdabcda"}) {
            due(pad, padded(pad).left(0, 0), NO);
            due(pad, padded(pad).left(3, 1), NO);
        }
    }

    private static void leftState() {
        for (String pad : new String[] {"aa", "abcdd", "abcdabcdabcdabcd"}) {
            due(pad, padded(pad).left(0, 0), STATE);
            due(pad, padded(pad).left(3, 1), STATE);
        }
    }

    private static StoryNest settled() {
        StoryNest x = nest("2:3", "4", "5:67:8", "9");
        for (int n = 0; n < 4; n++) {
            x.teller(n, 3 - n);
            x.knows(n, 15 - n);
        }
        x.wait(0, 1, 1);
        x.wait(2, 3, 0);
        x.wait(3, 0, 1);
        x.set(0, 2);
        x.set(1, 9);
        return x;
    }

    /** All that an image keeps, as it is told. */
    private static String kept(StoryNest x) {
        StringBuilder all = new StringBuilder();
        for (int what = 1; what < 36; what++) {
            all.append(x.told(what)).append(' ');
        }
        for (int s = 0; s < 4; s++) {
            for (int what : new int[] {0, 1, 2, 10, 11, 12, 13}) {
                all.append(x.about(s, what)).append(' ');
            }
        }
        all.append(x.ways(15, 4)).append(' ').append(x.ways(7, 2)).append(' ');
        all.append(x.shortest(15, 4, -1)).append(' ').append(x.rings()).append(' ').append(x.dropped(15));
        return all.toString();
    }

    private static void unsettle(StoryNest x) {
        for (int n = 0; n < 4; n++) {
            write(x, n, n == 3 ? "1:1:1:1" : "1");
            x.teller(n, 0);
            x.knows(n, 0);
        }
        x.drop(0);
        x.wait(3, 0, 0);
        x.wait(0, 0, 3);
        x.set(0, 1);
        x.set(1, 4);
    }

    private static void imageKeeps() {
        for (int n = 0; n < 2; n++) {
            StoryNest x = settled();
            type(x, "ab");
            String before = kept(x);
            due("kept", x.image(n), 1);
            same("nothing has changed", kept(x), before);
            due("nor the pad", x.told(0), 2);
            unsettle(x);
            type(x, "abc");
            due("back", x.restore(n), 1);
            same("as it was", kept(x), before);
            due("the pad is not of it", x.told(0), 3);
            due("the pad's signs are not of it", x.fault(1), NONE);
        }
        StoryNest y = settled();
        y.image(0);
        unsettle(y);
        String then = kept(y);
        due("kept anew", y.image(0), 1);
        y.set(1, 8);
        due("back", y.restore(0), 1);
        same("the last one that was kept", kept(y), then);
    }

    private static void imageOutside() {
        StoryNest x = new StoryNest();
        due("-1", x.image(-1), OUTSIDE);
        due("2", x.image(2), OUTSIDE);
        for (int n : WRAPPED) {
            due("" + n, x.image(n), OUTSIDE);
        }
        due("none is kept", x.restore(0), STATE);
        due("none is kept", x.restore(1), STATE);
    }

    private static void restoreBrings() {
        StoryNest x = new StoryNest();
        String first = kept(x);
        x.image(0);
        unsettle(x);
        String second = kept(x);
        x.image(1);
        due("the first", x.restore(0), 1);
        same("the first", kept(x), first);
        due("the second", x.restore(1), 1);
        same("the second", kept(x), second);
        unsettle(x);
        x.set(1, 7);
        due("again", x.restore(0), 1);
        same("the image has not changed with it", kept(x), first);
        due("again", x.restore(0), 1);
        same("as often as one likes", kept(x), first);
    }

    private static void restoreOutside() {
        StoryNest x = new StoryNest();
        for (int turn = 0; turn < 2; turn++) {
            due("-1", x.restore(-1), OUTSIDE);
            due("2", x.restore(2), OUTSIDE);
            for (int n : WRAPPED) {
                due("" + n, x.restore(n), OUTSIDE);
            }
            x.image(0);
            x.image(1);
        }
    }

    private static void restoreState() {
        StoryNest x = new StoryNest();
        due("0", x.restore(0), STATE);
        due("1", x.restore(1), STATE);
        x.image(1);
        due("0 still", x.restore(0), STATE);
        due("1 now", x.restore(1), 1);
        due("0 is not kept by that", x.restore(0), STATE);
        StoryNest y = new StoryNest();
        y.image(0);
        due("1 still", y.restore(1), STATE);
        due("0 now", y.restore(0), 1);
    }

    private static void toldNumbers() {
        StoryNest x = new StoryNest();
        for (int what = 0; what < 4; what++) {
            due("at first", x.told(what), 0);
        }
        type(x, "xyz");
        x.set(0, 2);
        x.set(1, 9);
        x.wait(0, 0, 1);
        due("signs", x.told(0), 3);
        due("waits", x.told(1), 1);
        due("law", x.told(2), 2);
        due("breath", x.told(3), 9);
    }

    private static void toldTellers() {
        StoryNest x = new StoryNest();
        for (int s = 0; s < 4; s++) {
            due("at first", x.told(10 + s), s);
            x.teller(s, 3 - s);
            due("then", x.told(10 + s), 3 - s);
        }
    }

    private static void toldKnown() {
        StoryNest x = new StoryNest();
        for (int t = 0; t < 4; t++) {
            due("at first", x.told(20 + t), 1 << t);
            x.knows(t, 15 - t);
            due("then", x.told(20 + t), 15 - t);
        }
    }

    private static void toldWaits() {
        StoryNest x = nest("1:1:1:1", "1", "1", "1:1:1:1");
        x.wait(0, 0, 1);
        x.wait(3, 3, 2);
        x.wait(3, 0, 0);
        x.wait(2, 0, 3);
        x.wait(0, 3, 3);
        x.wait(1, 0, 0);
        int[] want = {1, 332, 300, 203, 33, 100};
        for (int w = 0; w < 6; w++) {
            due("wait " + w, x.told(30 + w), want[w]);
        }
    }

    private static void toldNone() {
        StoryNest x = new StoryNest();
        for (int n = 0; n <= 6; n++) {
            for (int w = n; w < 6; w++) {
                due("wait " + w + " of " + n, x.told(30 + w), NONE);
            }
            x.wait(n < 3 ? 0 : 1, 0, n < 3 ? n + 1 : n == 3 ? 0 : n - 2);
        }
        due("six", x.told(1), 6);
        x.drop(0);
        due("no sixth", x.told(35), NONE);
    }

    private static void toldOutside() {
        StoryNest x = new StoryNest();
        sixWaitsOf(x);
        for (int what : new int[] {-1, 4, 9, 14, 19, 24, 29, 36, 40, 100, MIN, MIN + 10, MAX}) {
            due("" + what, x.told(what), OUTSIDE);
        }
    }
}
