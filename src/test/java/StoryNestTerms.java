import java.io.IOException;

/** The document's terms, sentence by sentence: each that names a boundary has a test of its own. */
public final class StoryNestTerms extends SentenceTest {
    private interface Call {
        long of(StoryNest x);
    }

    public static void main(String[] args) throws IOException {
        refusals();
        stories();
        texts();
        laws();
        judged();
        out();
        turnsAndRings();
        heardAndLeft();
        end("terms", args);
    }

    private static void says(String words, Runnable test) {
        says("Terms", words, test);
    }

    // ---- refusals

    private static void refusals() {
        says("Calls that are refused answer, the first of these that fits: UNKNOWN -1 (there is no such STORY, TELLER,"
            + " PART, WAIT), OUTSIDE -2 (another number is not as told), STATE -3 (as told), NO -5 (as told), FULL -4.",
            StoryNestTerms::orderOfRefusals);
        says("They change nothing.", StoryNestTerms::refusedCallsChangeNothing);
    }

    private static void orderOfRefusals() {
        StoryNest x = padded("xxxxxxxxxxxxxxxxxxxxxxxxxxxxxx");
        due("say: OUTSIDE, FULL", x.say(127), OUTSIDE);
        due("story: UNKNOWN, NO", x.story(4), UNKNOWN);
        due("about: UNKNOWN, OUTSIDE", x.about(4, 3), UNKNOWN);
        due("knows: UNKNOWN, OUTSIDE", x.knows(4, 16), UNKNOWN);
        due("judge: OUTSIDE, NO", x.judge(2), OUTSIDE);
        due("evening: OUTSIDE, NO", x.evening(3), OUTSIDE);
        due("ends: UNKNOWN, OUTSIDE deep", x.ends(4, 15, 5, 0), UNKNOWN);
        due("ends: UNKNOWN of the set, OUTSIDE deep", x.ends(0, 14, 0, 0), UNKNOWN);
        due("ends: UNKNOWN, OUTSIDE set", x.ends(4, 16, 1, 0), UNKNOWN);
        due("turns: UNKNOWN, OUTSIDE minute", x.turns(4, 15, 145, 0), UNKNOWN);
        due("turns: UNKNOWN of the set, OUTSIDE what", x.turns(0, 14, 1, 2), UNKNOWN);
        due("left: UNKNOWN, OUTSIDE, NO", x.left(4, 2), UNKNOWN);
        due("left: UNKNOWN, NO", x.left(4, 0), UNKNOWN);
        due("left: OUTSIDE, NO", x.left(0, 2), OUTSIDE);
        due("restore: OUTSIDE, STATE", x.restore(2), OUTSIDE);
        type(x, "aa");
        due("evening: OUTSIDE, STATE", x.evening(3), OUTSIDE);
        due("left: UNKNOWN, STATE", x.left(4, 0), UNKNOWN);
        due("left: OUTSIDE, STATE", x.left(0, 2), OUTSIDE);
        sixWaitsOf(x);
        due("wait: UNKNOWN, FULL", x.wait(0, 1, 1), UNKNOWN);
        due("wait: NO, FULL", x.wait(0, 0, 1), NO);
        due("wait: FULL", x.wait(2, 0, 1), FULL);
    }

    /** Each answer by which a change could be seen. */
    private static String seen(StoryNest x) {
        StringBuilder all = new StringBuilder();
        for (int what = 0; what < 36; what++) {
            all.append(x.told(what)).append(' ');
        }
        for (int s = 0; s < 4; s++) {
            for (int what : new int[] {0, 1, 2, 10, 11, 12, 13}) {
                all.append(x.about(s, what)).append(' ');
            }
            all.append(x.left(s, 0)).append(' ').append(x.left(s, 1)).append(' ');
        }
        for (int what = 0; what < 3; what++) {
            all.append(x.fault(what)).append(' ').append(x.judge(what)).append(' ');
            all.append(x.evening(what)).append(' ').append(x.first(what)).append(' ');
        }
        all.append(x.heard()).append(' ').append(x.ways(15, 4)).append(' ').append(x.ways(3, 2)).append(' ');
        all.append(x.shortest(3, 2, -1)).append(' ').append(x.rings()).append(' ').append(x.dropped(15));
        return all.toString();
    }

    /** Six waits, all that can be set is set, and one image is kept that is not as it is now. */
    private static StoryNest busy(String pad) {
        StoryNest x = nest("1:2", "3:4:5", "67", "8");
        x.set(0, 1);
        x.set(1, 3);
        x.teller(3, 2);
        x.knows(2, 7);
        x.wait(3, 0, 0);
        x.image(0);
        x.set(0, 2);
        x.set(1, 4);
        x.wait(0, 1, 2);
        x.wait(1, 2, 2);
        x.wait(1, 1, 2);
        x.wait(2, 0, 3);
        x.wait(2, 1, 0);
        type(x, pad);
        return x;
    }

    private static void refused(String pad, String what, int want, Call call) {
        StoryNest x = busy(pad);
        String before = seen(x);
        due(what, call.of(x), want);
        same("all behind " + what, seen(x), before);
        StoryNest y = busy(pad);
        due("the image behind " + what, x.restore(0), y.restore(0));
        same("all of the image behind " + what, seen(x), seen(y));
        due("the other image behind " + what, x.restore(1), STATE);
    }

    private static void refusedCallsChangeNothing() {
        String full = "12345678912345678912345678912x";
        refused(full, "say FULL", FULL, x -> x.say('a'));
        refused("ab", "say OUTSIDE", OUTSIDE, x -> x.say(32));
        refused("ab", "fault OUTSIDE", OUTSIDE, x -> x.fault(3));
        refused("99", "story UNKNOWN", UNKNOWN, x -> x.story(4));
        refused("9:9:", "story NO", NO, x -> x.story(1));
        refused("99999", "story NO, too long", NO, x -> x.story(1));
        refused("", "about UNKNOWN", UNKNOWN, x -> x.about(4, 0));
        refused("", "about OUTSIDE", OUTSIDE, x -> x.about(0, 3));
        refused("ab", "teller UNKNOWN", UNKNOWN, x -> x.teller(4, 0));
        refused("ab", "teller UNKNOWN, the teller", UNKNOWN, x -> x.teller(0, 4));
        refused("ab", "knows UNKNOWN", UNKNOWN, x -> x.knows(4, 15));
        refused("ab", "knows OUTSIDE", OUTSIDE, x -> x.knows(0, 16));
        refused("ab", "wait UNKNOWN", UNKNOWN, x -> x.wait(0, 0, 0));
        refused("ab", "wait NO", NO, x -> x.wait(3, 0, 0));
        refused("ab", "wait FULL", FULL, x -> x.wait(3, 0, 1));
        refused("ab", "drop UNKNOWN", UNKNOWN, x -> x.drop(6));
        refused("ab", "set OUTSIDE, the law", OUTSIDE, x -> x.set(0, 3));
        refused("ab", "set OUTSIDE, the breath", OUTSIDE, x -> x.set(1, 10));
        refused("ab", "set OUTSIDE", OUTSIDE, x -> x.set(2, 0));
        refused("ab", "image OUTSIDE", OUTSIDE, x -> x.image(2));
        refused("ab", "restore OUTSIDE", OUTSIDE, x -> x.restore(2));
        refused("ab", "restore STATE", STATE, x -> x.restore(1));
        refusedQuestionsChangeNothing(full);
    }

    private static void refusedQuestionsChangeNothing(String full) {
        refused("ab", "judge OUTSIDE", OUTSIDE, x -> x.judge(2));
        refused(full, "judge NO", NO, x -> x.judge(0));
        refused("ab", "evening OUTSIDE", OUTSIDE, x -> x.evening(3));
        refused(full, "evening NO", NO, x -> x.evening(0));
        refused("aab", "evening STATE", STATE, x -> x.evening(0));
        refused("ab", "ways OUTSIDE", OUTSIDE, x -> x.ways(16, 4));
        refused("ab", "shortest OUTSIDE", OUTSIDE, x -> x.shortest(3, 5, 0));
        refused("ab", "ends UNKNOWN", UNKNOWN, x -> x.ends(2, 3, 2, 0));
        refused("ab", "ends OUTSIDE", OUTSIDE, x -> x.ends(0, 3, 5, 0));
        refused("ab", "turns UNKNOWN", UNKNOWN, x -> x.turns(2, 3, 2, 0));
        refused("ab", "turns OUTSIDE", OUTSIDE, x -> x.turns(0, 3, 145, 0));
        refused("ab", "dropped OUTSIDE", OUTSIDE, x -> x.dropped(16));
        refused("1a", "heard NO", NO, x -> x.heard());
        refused("1a", "first NO", NO, x -> x.first(0));
        refused("1a", "who NO", NO, x -> x.who(0));
        refused("ab", "left UNKNOWN", UNKNOWN, x -> x.left(4, 0));
        refused("ab", "left OUTSIDE", OUTSIDE, x -> x.left(0, 2));
        refused("ab1", "left NO", NO, x -> x.left(0, 0));
        refused("aab", "left STATE", STATE, x -> x.left(0, 0));
        refused("ab", "told OUTSIDE", OUTSIDE, x -> x.told(4));
    }

    // ---- 1: stories and their tellers

    private static void stories() {
        says("STORIES 0 to 3 (a to d):", StoryNestTerms::storiesOfAll);
        says("1 to 4 PARTS", StoryNestTerms::partsOfAStory);
        says("of 1 to 9 minutes each;", StoryNestTerms::minutesOfAPart);
        says("behind each PART but the last one there may be a GATE.", StoryNestTerms::gatesOfAStory);
        says("Each has a TELLER 0 to 3 (its number at first).", StoryNestTerms::tellersOfAll);
        says("A TELLER KNOWS stories (bits 0 to 15; at first his own number's alone).", StoryNestTerms::whatTellersKnow);
        says("At first all have one PART of 1 minute.", StoryNestTerms::storiesAtFirst);
    }

    private static void storiesOfAll() {
        unknownStory(-1);
        unknownStory(4);
        for (int s : WRAPPED) {
            unknownStory(s);
        }
        for (int s = 0; s < 4; s++) {
            StoryNest x = padded("2:3");
            due("story " + s, x.story(s), 2);
            due("about " + s, x.about(s, 1), 5);
            due("teller " + s, x.teller(s, s), s);
            due("ends " + s, x.ends(s, 15, 4, 0), 5);
            due("turns " + s, x.turns(s, 1 << s, 5, 1), s);
            due("wait " + s, x.wait(s, 1, (s + 1) % 4), 0);
            type(x, "" + (char) ('a' + s));
            due("letter of " + s, x.evening(0), 1 << s);
        }
    }

    private static void unknownStory(int s) {
        StoryNest x = padded("1");
        due("story " + s, x.story(s), UNKNOWN);
        due("about " + s, x.about(s, 0), UNKNOWN);
        due("teller " + s, x.teller(s, 0), UNKNOWN);
        due("wait " + s, x.wait(s, 0, 1), UNKNOWN);
        due("wait for " + s, x.wait(1, 0, s), UNKNOWN);
        due("ends " + s, x.ends(s, 15, 4, -1), UNKNOWN);
        due("turns " + s, x.turns(s, 15, 1, 0), UNKNOWN);
    }

    private static void partsOfAStory() {
        String[] texts = {"5", "5:5", "555", "5:5:5:5"};
        for (int parts = 1; parts <= 4; parts++) {
            StoryNest x = nest(texts[parts - 1]);
            due("parts of " + texts[parts - 1], x.about(0, 0), parts);
            due("the last part", x.about(0, 9 + parts), 5);
            due("the part behind it", x.about(0, 10 + parts), parts < 4 ? NONE : OUTSIDE);
        }
        due("no part", padded("").story(0), NO);
        due("five parts", padded("55555").story(0), NO);
        due("five parts with gates", padded("5:5:5:5:5").story(0), NO);
    }

    private static void minutesOfAPart() {
        for (int m = 1; m <= 9; m++) {
            StoryNest x = nest("1:1:1:" + m);
            due("minutes of the last part", x.about(0, 13), m);
            due("all minutes", x.about(0, 1), 3 + m);
        }
        due("0 minutes", padded("0").story(0), NO);
        due("0 minutes of the last part", padded("1:0").story(0), NO);
        due("most of all", nest("9999", "9999", "9999", "9999").shortest(15, 1, -1), 144);
    }

    private static void gatesOfAStory() {
        String[] texts = {"1111", "1:111", "11:11", "1:1:11", "111:1", "1:11:1", "11:1:1", "1:1:1:1"};
        for (int gates = 0; gates < 8; gates++) {
            StoryNest x = nest(texts[gates]);
            due("gates of " + texts[gates], x.about(0, 2), gates);
            for (int part = 1; part < 4; part++) {
                type(x, "aaa".substring(0, part) + "b");
                int why = (gates >> (part - 1) & 1) == 1 ? NONE : 3;
                due("b behind " + part + " parts of " + texts[gates], x.judge(1), why);
            }
        }
        due("a gate behind the last one", padded("1:1:1:1:").story(0), NO);
        due("a gate behind the only one", padded("1:").story(0), NO);
        due("a gate ahead of the first one", padded(":1").story(0), NO);
        due("two gates", padded("1::1").story(0), NO);
        StoryNest x = nest("1:1");
        write(x, 0, "11");
        due("no gate of the story that was", x.about(0, 2), 0);
    }

    private static void tellersOfAll() {
        StoryNest x = new StoryNest();
        for (int s = 0; s < 4; s++) {
            due("teller at first", x.told(10 + s), s);
            due("teller 3", x.teller(s, 3), s);
            due("teller 0", x.teller(s, 0), 3);
            due("teller told", x.told(10 + s), 0);
        }
        unknownTeller(-1);
        unknownTeller(4);
        for (int t : WRAPPED) {
            unknownTeller(t);
        }
    }

    private static void unknownTeller(int t) {
        StoryNest x = new StoryNest();
        due("teller " + t, x.teller(0, t), UNKNOWN);
        due("knows " + t, x.knows(t, 0), UNKNOWN);
        due("left " + t, x.left(t, 0), UNKNOWN);
    }

    private static void whatTellersKnow() {
        StoryNest x = new StoryNest();
        for (int t = 0; t < 4; t++) {
            due("known at first", x.told(20 + t), 1 << t);
            due("all", x.knows(t, 15), 1 << t);
            due("nothing", x.knows(t, 0), 15);
            due("16", x.knows(t, 16), OUTSIDE);
            due("-1", x.knows(t, -1), OUTSIDE);
            due("nothing still", x.told(20 + t), 0);
        }
        for (int v : WRAPPED) {
            due("knows " + v, x.knows(0, v), OUTSIDE);
        }
    }

    private static void storiesAtFirst() {
        StoryNest x = new StoryNest();
        for (int s = 0; s < 4; s++) {
            due("parts", x.about(s, 0), 1);
            due("minutes", x.about(s, 1), 1);
            due("gates", x.about(s, 2), 0);
            due("the first part", x.about(s, 10), 1);
            due("no second part", x.about(s, 11), NONE);
            due("no third part", x.about(s, 12), NONE);
            due("no fourth part", x.about(s, 13), NONE);
        }
    }

    // ---- 1: texts

    private static void texts() {
        says("A PAD of up to 30 signs (codes 33 to 126).", StoryNestTerms::signsOfThePad);
        says("A STORY as a text: digits 1 to 9, one for each PART, and : between two of them where there is a GATE.",
            StoryNestTerms::storyAsText);
        says("An EVENING as a text: letters a to d: the next PART of that STORY is told.",
            StoryNestTerms::eveningAsText);
        says("A WALL as a text: digits 1 to 9: minutes of PARTS as they were heard.", StoryNestTerms::wallAsText);
        says("THE FAULT: the place (from 0 on) of the first sign that can not stand there,",
            StoryNestTerms::firstWrongSign);
        says("or the number of signs, if more must come", StoryNestTerms::moreMustCome);
        says("a STORY has one PART at least;", StoryNestTerms::storyIsNotEmpty);
        says("an EVENING, a WALL may be empty;", StoryNestTerms::emptyTexts);
        says("both have 16 signs at most;", StoryNestTerms::longTexts);
        says("how: 0, 1, 2", StoryNestTerms::threeHows);
    }

    private static void signsOfThePad() {
        StoryNest x = new StoryNest();
        for (int n = 1; n <= 30; n++) {
            due("sign " + n, x.say(n == 1 ? 33 : n == 2 ? 126 : 'a'), n);
            due("signs", x.told(0), n);
        }
        due("sign 31", x.say('a'), FULL);
        due("sign 31 again", x.say(33), FULL);
        due("30 signs still", x.told(0), 30);
        due("all 30 go", x.wipe(), 30);
        due("anew", x.say('a'), 1);
        for (int sign : new int[] {32, 127, 0, -1, 10, 128, 256 + 'a', 65536 + 'a', MIN, MAX}) {
            due("code " + sign, x.say(sign), OUTSIDE);
        }
        due("one sign still", x.told(0), 1);
    }

    private static void storyAsText() {
        StoryNest x = nest("1:92");
        due("parts", x.about(0, 0), 3);
        due("part 0", x.about(0, 10), 1);
        due("part 1", x.about(0, 11), 9);
        due("part 2", x.about(0, 12), 2);
        due("gates", x.about(0, 2), 1);
        for (char c = 33; c < 127; c++) {
            boolean isDigit = c >= '1' && c <= '9';
            due("the first sign " + c, padded("" + c).fault(0), isDigit ? NONE : 0);
            due("the second sign " + c, padded("1" + c).fault(0), isDigit ? NONE : c == ':' ? 2 : 1);
            due("the sign behind a gate " + c, padded("1:" + c).fault(0), isDigit ? NONE : 2);
            due("the sign behind four parts " + c, padded("1:234" + c).fault(0), 5);
        }
    }

    private static void eveningAsText() {
        for (char c = 33; c < 127; c++) {
            boolean isLetter = c >= 'a' && c <= 'd';
            due("the sign " + c, padded("" + c).fault(1), isLetter ? NONE : 0);
            due("the last sign " + c, padded("abcdabcdabcdabc" + c).fault(1), isLetter ? NONE : 15);
        }
        StoryNest x = nest("2:3", "4", "5", "6");
        of(x, "a", 2, 2);
        of(x, "aa", 2, 5);
        of(x, "aad", 2, 11);
        of(x, "dcba", 2, 17);
    }

    private static void wallAsText() {
        for (char c = 33; c < 127; c++) {
            boolean isDigit = c >= '1' && c <= '9';
            due("the sign " + c, padded("" + c).fault(2), isDigit ? NONE : 0);
            due("the last sign " + c, padded("123456789123456" + c).fault(2), isDigit ? NONE : 15);
        }
        StoryNest x = nest("9:1", "5", "5", "5");
        heard(x, "91", 1);
        same("9 and 1", first(x, "91"), "aa");
        heard(x, "19", 0);
    }

    private static void firstWrongSign() {
        due("place 0", padded("x1").fault(0), 0);
        due("of two the first", padded("1xx").fault(0), 1);
        due("the fifth part, not what comes behind it", padded("12345:x").fault(0), 4);
        due("a gate behind four parts", padded("1234:").fault(0), 4);
        due("a second gate", padded("1::x").fault(0), 2);
        due("an evening's", padded("abx1").fault(1), 2);
        due("a wall's", padded("12x:").fault(2), 2);
        due("of 30 signs", padded("abcdabcdabcdabcdabcdabcdabcdab").fault(1), 16);
        due("ahead of the 17th", padded("abcdabcdabcdabcxabcd").fault(1), 15);
        due("the 17th is too much, whatever it is", padded("abcdabcdabcdabcdx").fault(1), 16);
        due("the wall's 17th is too much", padded("1234567891234567x").fault(2), 16);
        due("a letter on a wall", padded("a").fault(2), 0);
        due("a digit in an evening", padded("a1").fault(1), 1);
    }

    private static void moreMustCome() {
        due("nothing", padded("").fault(0), 0);
        due("behind a gate", padded("1:").fault(0), 2);
        due("behind two gates", padded("1:1:").fault(0), 4);
        due("behind three gates", padded("1:1:1:").fault(0), 6);
        due("behind three parts and a gate", padded("111:").fault(0), 4);
        due("nothing more must come", padded("1:1:1:1").fault(0), NONE);
        due("nothing more must come, no gates", padded("111").fault(0), NONE);
    }

    private static void storyIsNotEmpty() {
        StoryNest x = new StoryNest();
        due("fault", x.fault(0), 0);
        due("story", x.story(0), NO);
        x.say('1');
        due("one part", x.fault(0), NONE);
        due("story of one part", x.story(0), 1);
    }

    private static void emptyTexts() {
        StoryNest x = new StoryNest();
        due("evening", x.fault(1), NONE);
        due("wall", x.fault(2), NONE);
        due("judged", x.judge(0), NONE);
        due("why", x.judge(1), NONE);
        for (int what = 0; what < 3; what++) {
            due("of the evening " + what, x.evening(what), 0);
        }
        due("heard", x.heard(), 1);
        due("first", x.first(0), NONE);
        due("who", x.who(0), NONE);
        due("left", x.left(0, 0), 0);
        due("closed by", x.left(0, 1), 14);
    }

    private static void longTexts() {
        StoryNest x = nest("9:9:9:9", "9:9:9:9", "9:9:9:9", "9:9:9:9");
        String most = "aaaabbbbccccdddd";
        good(x, most);
        of(x, most, 2, 144);
        type(x, most + "a");
        due("17 letters", x.fault(1), 16);
        due("17 letters judged", x.judge(0), NO);
        due("17 letters' evening", x.evening(2), NO);
        due("left behind 17 letters", x.left(0, 0), NO);
        type(x, "9999999999999999");
        due("16 minutes", x.fault(2), NONE);
        due("the first of 16", x.first(0), 'a');
        due("the last of 16", x.first(15), 'd');
        due("who at the first", x.who(0), 15);
        due("who at the last", x.who(15), 15);
        x.say('9');
        due("17 minutes", x.fault(2), 16);
        due("17 minutes heard", x.heard(), NO);
        due("17 minutes' first", x.first(0), NO);
        due("17 minutes' who", x.who(0), NO);
    }

    private static void threeHows() {
        StoryNest x = padded("1");
        due("how 0", x.fault(0), NONE);
        due("how 1", x.fault(1), 0);
        due("how 2", x.fault(2), NONE);
        due("how -1", x.fault(-1), OUTSIDE);
        due("how 3", x.fault(3), OUTSIDE);
        for (int how : WRAPPED) {
            due("how " + how, x.fault(how), OUTSIDE);
        }
    }

    // ---- 1: waits and laws

    private static void laws() {
        says("WAITS, 6 at most:", StoryNestTerms::sixWaits);
        says("a PART of a STORY (0 on) that is not told until another STORY is TOLD OUT (all its PARTS are told).",
            StoryNestTerms::waitsUntilToldOut);
        says("A STORY is OPEN, if its first PART is told, and not its last one.", StoryNestTerms::openStories);
        says("THE LAW: 0 INNER (at first): of OPEN ones that alone may go on which began last; another one may begin,"
            + " if that one is at a GATE;", StoryNestTerms::inner);
        says("1 OUTER: likewise, by that which began first;", StoryNestTerms::outer);
        says("2 ANY: each OPEN one may go on; another one may begin, if some OPEN one is at a GATE.",
            StoryNestTerms::any);
        says("If none is OPEN, each may begin.", StoryNestTerms::noneIsOpen);
        says("None begins whose TELLER has one OPEN.", StoryNestTerms::busyTeller);
    }

    private static void sixWaits() {
        StoryNest x = new StoryNest();
        sixWaitsOf(x);
        due("six", x.told(1), 6);
        due("the sixth", x.told(35), 103);
        due("the seventh", x.wait(2, 0, 0), FULL);
        due("six still", x.told(1), 6);
        due("room again", x.drop(5), 5);
        due("the sixth anew", x.wait(2, 0, 0), 5);
        due("full again", x.wait(2, 0, 1), FULL);
    }

    private static void waitsUntilToldOut() {
        for (int part = 0; part < 4; part++) {
            StoryNest x = nest("1:1:1:1", "1:1");
            x.set(0, 2);
            due("wait", x.wait(0, part, 1), 0);
            String before = "aaaa".substring(0, part);
            good(x, before, "b" + before, "bb" + before + "a");
            bad(x, 5, before + "a", before + "ba");
        }
        StoryNest y = new StoryNest();
        y.wait(0, 0, 1);
        y.wait(0, 0, 2);
        bad(y, 5, "a", "ba", "ca", "da", "bda");
        good(y, "bca", "cba");
    }

    private static void openStories() {
        StoryNest x = nest("1:1:1:1", "1:1");
        of(x, "", 0, 0);
        of(x, "a", 0, 1);
        of(x, "aa", 0, 1);
        of(x, "aaa", 0, 1);
        of(x, "aaaa", 0, 0);
        of(x, "b", 0, 2);
        of(x, "bb", 0, 0);
        of(x, "d", 0, 0);
        of(x, "ab", 0, 3);
        of(x, "abb", 0, 1);
    }

    private static void inner() {
        StoryNest x = nest("1:1:1", "1:1:1", "1:1", "1");
        due("at first", x.told(2), 0);
        good(x, "abcdcbbaa", "abbbaa", "aabcc");
        bad(x, 2, "aba", "abca", "abcb", "abba");
        StoryNest y = nest("1:1", "11", "1:1", "1");
        good(y, "ab", "abbc", "abbcdca", "acd");
        bad(y, 3, "abc", "abd");
    }

    private static void outer() {
        StoryNest x = nest("1:11", "1:1", "1:1", "1");
        x.set(0, 1);
        good(x, "abc", "abcd", "abcaabc", "abaab", "abaac", "abaacbc", "abaadb");
        bad(x, 2, "abb", "abcb", "abcc", "abab", "abcaac");
        bad(x, 3, "abac", "abad");
        StoryNest y = nest("1:1", "11", "1");
        y.set(0, 1);
        good(y, "abc");
        bad(y, 3, "abac");
        StoryNest z = nest("1:1", "1:1", "1:1", "1:1");
        z.set(0, 1);
        good(z, "dcbadcba", "cadbcadb");
        bad(z, 2, "dcbadb", "cadbcd");
    }

    private static void any() {
        StoryNest x = nest("1:1:1", "1:1:1", "11", "1");
        x.set(0, 2);
        good(x, "abcabcab", "abab", "acdca", "abcbca", "acd", "acaac");
        bad(x, 3, "ca", "cb", "cd", "acaad");
    }

    private static void noneIsOpen() {
        for (int law = 0; law < 3; law++) {
            StoryNest x = nest("11", "11", "11", "11");
            x.set(0, law);
            good(x, "a", "b", "c", "d", "aab", "ddc", "aabbccdd", "ddccbbaa");
            bad(x, 3, "ab", "aabc", "ddca");
        }
    }

    private static void busyTeller() {
        for (int law = 0; law < 3; law++) {
            StoryNest x = nest("1:1:1", "1:1", "1", "1");
            x.set(0, law);
            x.teller(1, 0);
            x.teller(2, 0);
            bad(x, 4, "ab", "ac", "aab", "aac", "adb");
            good(x, "aaab", "aaac", "bba", "ca", "bbaaac", "ada");
            x.teller(3, 1);
            good(x, "ad", "aadab");
        }
        StoryNest y = nest("1:1", "1:1", "1");
        y.teller(2, 0);
        bad(y, 4, "abc");
        good(y, "bc", "bcb");
    }

    // ---- 2: judged

    private static void judged() {
        says("JUDGED: the first place of an EVENING that can not be, and why:", StoryNestTerms::firstPlace);
        says("1 the STORY is TOLD OUT,", StoryNestTerms::whyToldOut);
        says("2 it is OPEN and may not go on by THE LAW,", StoryNestTerms::whyNotOn);
        says("3 it may not begin by THE LAW,", StoryNestTerms::whyNotBegin);
        says("4 its TELLER has one OPEN,", StoryNestTerms::whyTeller);
        says("5 its PART WAITS;", StoryNestTerms::whyWaits);
        says("the least of these.", StoryNestTerms::leastWhy);
        says("What is told of an EVENING that is good: OPEN ones at the end (bits),", StoryNestTerms::openAtTheEnd);
        says("DEEP: the most that were OPEN at once (when a PART is told: with the STORY that is told, also if it is"
            + " TOLD OUT by that),", StoryNestTerms::deepest);
        says("minutes: of PARTS, and BREATH (0 to 9; 0 at first) for each PART told by another TELLER than the one"
            + " ahead of it.", StoryNestTerms::minutesWithBreath);
    }

    private static void firstPlace() {
        StoryNest x = padded("aabbccdd");
        due("of many", x.judge(0), 1);
        due("why of many", x.judge(1), 1);
        x.wait(3, 0, 0);
        type(x, "dda");
        due("place 0", x.judge(0), 0);
        due("why at place 0", x.judge(1), 5);
        StoryNest y = nest("1:1:1:1", "1:1:1:1", "1:1:1:1", "1:1:1:1");
        bad(y, 1, "aaaabbbbccccdddc");
        good(y, "aaaabbbbccccddd");
    }

    private static void whyToldOut() {
        StoryNest x = nest("1:1:1:1", "1", "1:1");
        bad(x, 1, "bb", "aaaaa", "cbcaaaac", "abab");
        good(x, "aaaa", "b", "cbc");
    }

    private static void whyNotOn() {
        StoryNest x = nest("1:1", "1:1");
        bad(x, 2, "aba", "bab");
        x.set(0, 1);
        bad(x, 2, "abb", "baa");
        x.set(0, 2);
        good(x, "aba", "bab", "abb", "baa");
    }

    private static void whyNotBegin() {
        for (int law = 0; law < 3; law++) {
            StoryNest x = nest("11:1", "1");
            x.set(0, law);
            bad(x, 3, "ab", "ac", "ad");
            good(x, "aab", "aac", "aad");
        }
    }

    private static void whyTeller() {
        StoryNest x = nest("1:1", "1:1");
        x.teller(0, 3);
        bad(x, 4, "ad", "abd", "abbd");
        good(x, "aad", "bd", "da", "ab");
        x.teller(3, 0);
        good(x, "ad");
    }

    private static void whyWaits() {
        StoryNest x = nest("1:1", "1:1");
        x.wait(0, 0, 3);
        bad(x, 5, "a", "ba", "bba", "ca");
        good(x, "da", "dba", "bda");
        x.wait(1, 1, 0);
        bad(x, 5, "bb", "dbb");
        good(x, "bdaab", "daabb", "dab");
    }

    private static void leastWhy() {
        StoryNest x = nest("11", "1");
        bad(x, 1, "bab");
        x.teller(1, 0);
        bad(x, 1, "bab");
        bad(x, 3, "ab");
        x.wait(1, 0, 2);
        bad(x, 3, "ab");
        x.teller(1, 1);
        bad(x, 3, "ab");
        StoryNest y = nest("1:1", "1");
        y.teller(1, 0);
        bad(y, 1, "bab");
        y.wait(1, 0, 2);
        bad(y, 4, "ab");
        bad(y, 5, "b");
        StoryNest z = nest("1:1", "1:1");
        z.wait(0, 1, 2);
        bad(z, 2, "aba");
        bad(z, 5, "aa");
    }

    private static void openAtTheEnd() {
        StoryNest x = nest("1:1", "1:1", "1:1", "1:1");
        of(x, "", 0, 0);
        of(x, "abcd", 0, 15);
        of(x, "abcdd", 0, 7);
        of(x, "abcddc", 0, 3);
        of(x, "bd", 0, 10);
        of(x, "aabbccdd", 0, 0);
        of(x, "aabbccd", 0, 8);
    }

    private static void deepest() {
        StoryNest x = nest("1:1", "1:1", "1:1", "1");
        of(x, "", 1, 0);
        of(x, "d", 1, 1);
        of(x, "a", 1, 1);
        of(x, "aa", 1, 1);
        of(x, "ad", 1, 2);
        of(x, "ab", 1, 2);
        of(x, "abba", 1, 2);
        of(x, "abcc", 1, 3);
        of(x, "abd", 1, 3);
        of(x, "abcd", 1, 4);
        of(x, "aabbccd", 1, 1);
        of(x, "abdba", 1, 3);
    }

    private static void minutesWithBreath() {
        StoryNest x = nest("2:3", "4", "5", "9");
        due("breath at first", x.told(3), 0);
        of(x, "aba", 2, 9);
        x.set(1, 9);
        of(x, "", 2, 0);
        of(x, "a", 2, 2);
        of(x, "aa", 2, 5);
        of(x, "ab", 2, 2 + 9 + 4);
        of(x, "aba", 2, 2 + 9 + 4 + 9 + 3);
        x.teller(2, 1);
        of(x, "bc", 2, 9);
        of(x, "abca", 2, 2 + 9 + 4 + 5 + 9 + 3);
        of(x, "bdc", 2, 4 + 9 + 9 + 9 + 5);
        x.set(1, 1);
        of(x, "bdc", 2, 4 + 1 + 9 + 1 + 5);
        due("breath 10", x.set(1, 10), OUTSIDE);
        due("breath -1", x.set(1, -1), OUTSIDE);
    }

    // ---- 3: out

    private static void out() {
        says("OUT: EVENINGS (from none told) that are good, tell all PARTS of a set of STORIES (bits 1 to 15) and no"
            + " others, and are no deeper than so many (1 to 4).", StoryNestTerms::setsAndDepths);
        says("WAITS for STORIES that are not of the set do not count.", StoryNestTerms::waitsNotOfTheSet);
        says("How many EVENINGS;", StoryNestTerms::howManyOut);
        says("the least minutes;", StoryNestTerms::leastMinutes);
        says("the first by letters that takes these.", StoryNestTerms::firstOfTheShortest);
        says("ENDS: minutes (without BREATH) at which a STORY of the set can be TOLD OUT in such an EVENING.",
            StoryNestTerms::minutesOfEnds);
    }

    /** n stories with one gate each, told in one another: n! times the n-th number of Catalan. */
    private static void setsAndDepths() {
        StoryNest x = nest("1:1", "1:1", "1:1", "1:1");
        int[] unbound = {0, 1, 4, 30, 336};
        for (int set = 1; set <= 15; set++) {
            due("set " + set, x.ways(set, 4), unbound[Integer.bitCount(set)]);
        }
        int[] deep = {24, 192, 312, 336};
        for (int d = 1; d <= 4; d++) {
            due("deep " + d, x.ways(15, d), deep[d - 1]);
        }
        type(x, "ab");
        due("from none told", x.ways(3, 4), 4);
        same("no others", shortest(x, 10, 1), "bbdd");
        for (int set : new int[] {0, 16, 17, 31, -1, -15}) {
            setOutside(x, set);
        }
        for (int set : WRAPPED) {
            setOutside(x, set);
        }
        for (int d : new int[] {0, 5, -1, 8, MIN, MAX}) {
            due("ways, deep " + d, x.ways(15, d), OUTSIDE);
            due("shortest, deep " + d, x.shortest(15, d, -1), OUTSIDE);
            due("ends, deep " + d, x.ends(0, 15, d, -1), OUTSIDE);
        }
    }

    private static void setOutside(StoryNest x, int set) {
        due("ways of set " + set, x.ways(set, 4), OUTSIDE);
        due("shortest of set " + set, x.shortest(set, 4, -1), OUTSIDE);
        due("dropped of set " + set, x.dropped(set), OUTSIDE);
        int want = (set & 1) == 0 ? UNKNOWN : OUTSIDE;
        due("ends of set " + set, x.ends(0, set, 4, -1), want);
        due("turns of set " + set, x.turns(0, set, 2, 0), want);
    }

    private static void waitsNotOfTheSet() {
        StoryNest x = nest("2:3", "4");
        x.wait(0, 0, 1);
        x.wait(0, 1, 2);
        x.wait(1, 0, 0);
        due("ways", x.ways(1, 1), 1);
        due("shortest", x.shortest(1, 1, -1), 5);
        due("the last letter", x.shortest(1, 1, 1), 'a');
        due("ends", x.ends(0, 1, 1, 0), 5);
        due("turns", x.turns(0, 1, 5, 0), 1);
        due("rings", x.rings() & 1 | x.rings() & 2, 0);
        due("dropped", x.dropped(1), 0);
        due("ways of a and d", x.ways(9, 1), 2);
        due("of the set they count: ways", x.ways(3, 4), 0);
        due("of the set they count: rings", x.rings() >> 2 & 1, 1);
        due("of the set they count: a behind c", x.ways(5, 4), 2);
        due("of the set they count: dropped", x.dropped(3), 1);
    }

    private static void howManyOut() {
        StoryNest x = nest("1:1:1:1", "1:1:1:1", "1:1:1:1", "1:1:1:1");
        x.set(0, 2);
        due("the most there can be, 16! by 4! four times", x.ways(15, 4), 63063000L);
        due("one story has one", x.ways(8, 1), 1);
        x.wait(0, 3, 1);
        x.wait(1, 3, 0);
        due("none", x.ways(3, 4), 0);
        due("none, however many there are", x.ways(15, 4), 0);
    }

    private static void leastMinutes() {
        StoryNest x = nest("1:1", "1:1");
        due("no breath", x.shortest(3, 2, -1), 4);
        x.set(1, 9);
        due("one change", x.shortest(3, 2, -1), 13);
        x.teller(1, 0);
        due("no change", x.shortest(3, 2, -1), 4);
        due("one story", x.shortest(1, 1, -1), 2);
        StoryNest y = nest("9:9:9:9", "9:9:9:9", "9:9:9:9", "9:9:9:9");
        y.set(1, 9);
        due("the most", y.shortest(15, 1, -1), 144 + 27);
        y.wait(0, 1, 1);
        y.wait(1, 0, 0);
        due("none", y.shortest(15, 4, -1), NONE);
    }

    private static void firstOfTheShortest() {
        StoryNest x = nest("1:1", "1:1");
        same("no waits", shortest(x, 3, 2), "aabb");
        x.wait(0, 1, 1);
        same("no breath", shortest(x, 3, 2), "abba");
        same("no breath, one open", shortest(x, 3, 1), "bbaa");
        x.set(1, 1);
        same("fewer changes ahead of the letters", shortest(x, 3, 2), "bbaa");
        StoryNest y = nest("1", "1", "1", "1");
        y.teller(2, 0);
        same("all take the same", shortest(y, 15, 1), "abcd");
        y.set(1, 1);
        same("a and c have one teller", shortest(y, 15, 1), "acbd");
        y.wait(0, 0, 3);
        same("a behind d", shortest(y, 15, 1), "bdac");
        y.wait(2, 0, 1);
        y.wait(3, 0, 1);
        same("c and d behind b", shortest(y, 15, 1), "bdac");
    }

    private static void minutesOfEnds() {
        StoryNest x = nest("2:3", "1:4");
        x.set(1, 9);
        same("one open", ends(x, 1, 3, 1), "5 10");
        same("two open", ends(x, 1, 3, 2), "5 7 10");
        same("alone", ends(x, 1, 2, 2), "5");
        x.wait(1, 1, 0);
        same("b waits in a for a, and so it is no evening", ends(x, 1, 3, 2), "10");
        same("a in b, or ahead of b", ends(x, 0, 3, 2), "5 6");
        x.wait(0, 0, 1);
        same("none", ends(x, 0, 3, 2), "");
        StoryNest y = nest("9:9:9:9", "9:9:9:9", "9:9:9:9", "9:9:9:9");
        due("the last minute", y.ends(3, 15, 1, 3), 144);
        due("the last minute counts", y.ends(3, 15, 1, -1), 4);
        due("of it nothing stays for another set", y.ends(3, 8, 1, -1), 1);
        due("the first minute", y.ends(3, 15, 4, 0), 36);
        due("the first minute of one minute", new StoryNest().ends(3, 15, 4, 0), 1);
    }

    // ---- 3: turns, rings

    private static void turnsAndRings() {
        says("TURNS: two sides tell an EVENING of a set, PART by PART, by turns (side 0 the first one),",
            StoryNestTerms::byTurns);
        says("any PART of these that can come (no depth is asked; WAITS as in OUT);", StoryNestTerms::anyPartThatCanCome);
        says("side 0 wishes that a STORY of the set is TOLD OUT at just a minute (without BREATH),",
            StoryNestTerms::atJustAMinute);
        says("side 1 that it is not (if none can come before that, it is not):", StoryNestTerms::noneCanCome);
        says("whether side 0 can have it;", StoryNestTerms::canHaveIt);
        says("with which STORY it begins then (the least).", StoryNestTerms::leastBegin);
        says("RINGS: sets that have no such EVENING, however deep.", StoryNestTerms::setsWithoutEvening);
        says("DROPPED: the fewest WAITS without which a set has one;", StoryNestTerms::fewestWaits);
        says("of several sets of WAITS the least as bits.", StoryNestTerms::leastAsBits);
    }

    private static void turns(StoryNest x, int story, int set, int minute, int begin) {
        due("turns " + story + " of " + set + " at " + minute, x.turns(story, set, minute, 0), begin == NONE ? 0 : 1);
        due("begin " + story + " of " + set + " at " + minute, x.turns(story, set, minute, 1), begin);
    }

    private static void byTurns() {
        StoryNest x = new StoryNest();
        turns(x, 0, 1, 1, 0);
        turns(x, 0, 3, 1, 0);
        turns(x, 0, 3, 2, 1);
        turns(x, 0, 7, 1, 0);
        turns(x, 0, 7, 2, NONE);
        turns(x, 0, 7, 3, NONE);
        turns(x, 3, 15, 1, 3);
        turns(x, 3, 15, 2, NONE);
        StoryNest y = nest("1:1:1");
        turns(y, 0, 1, 3, 0);
        turns(y, 0, 3, 3, NONE);
        turns(y, 0, 3, 4, 0);
    }

    private static void anyPartThatCanCome() {
        StoryNest x = nest("1:1", "1:1");
        x.wait(1, 1, 0);
        x.wait(0, 0, 2);
        turns(x, 0, 3, 3, 1);
        x.wait(0, 1, 1);
        turns(x, 0, 3, 3, NONE);
        turns(x, 0, 1, 2, 0);
        // Ahead of c's last part just a, b, c begun and d can come, so all four are open at once, or c comes last.
        StoryNest y = nest("1:1", "1:1", "1:1", "1");
        y.set(0, 2);
        y.wait(0, 1, 1);
        y.wait(1, 1, 2);
        y.wait(2, 1, 3);
        turns(y, 2, 15, 5, 0);
        turns(y, 2, 15, 4, NONE);
    }

    private static void atJustAMinute() {
        StoryNest x = nest("23", "45", "6");
        x.set(1, 9);
        turns(x, 0, 3, 4, NONE);
        turns(x, 0, 3, 5, 0);
        turns(x, 0, 3, 6, NONE);
        turns(x, 0, 3, 14, 1);
        turns(x, 0, 3, 13, NONE);
        turns(x, 0, 3, 15, NONE);
        turns(x, 0, 3, 23, NONE);
        turns(x, 0, 3, 0, NONE);
        StoryNest y = nest("9999", "9999", "9999", "9999");
        y.wait(3, 0, 0);
        y.wait(3, 0, 1);
        y.wait(3, 0, 2);
        turns(y, 3, 15, 144, 0);
        turns(y, 3, 15, 143, NONE);
        StoryNest z = nest("9:9:9:9", "9:9:9:9", "9:9:9:9", "9:9:9:9");
        turns(z, 0, 15, 35, NONE);
        turns(z, 0, 15, 143, NONE);
        turns(z, 0, 1, 36, 0);
    }

    private static void noneCanCome() {
        StoryNest x = nest("1:1", "1:1");
        x.wait(1, 1, 0);
        turns(x, 1, 3, 4, 1);
        x.set(0, 2);
        turns(x, 1, 3, 4, 0);
        x.wait(0, 0, 1);
        turns(x, 1, 3, 4, NONE);
        turns(x, 1, 3, 1, NONE);
        x.wait(1, 0, 0);
        turns(x, 0, 3, 0, NONE);
        turns(x, 0, 3, 2, NONE);
    }

    private static void canHaveIt() {
        StoryNest x = new StoryNest();
        due("it can", x.turns(2, 4, 1, 0), 1);
        due("it can not", x.turns(2, 4, 2, 0), 0);
        due("side 1 is against it", x.turns(2, 14, 2, 0), 0);
        due("side 1 must", x.turns(2, 12, 2, 0), 1);
    }

    private static void leastBegin() {
        StoryNest x = new StoryNest();
        x.wait(2, 0, 0);
        x.wait(2, 0, 1);
        turns(x, 2, 7, 3, 0);
        turns(x, 2, 6, 2, 1);
        x.wait(0, 0, 1);
        turns(x, 2, 7, 3, 1);
        turns(x, 2, 7, 2, NONE);
        StoryNest y = new StoryNest();
        y.wait(0, 0, 3);
        y.wait(0, 0, 2);
        turns(y, 0, 13, 3, 2);
        turns(y, 0, 9, 2, 3);
    }

    private static void setsWithoutEvening() {
        StoryNest x = new StoryNest();
        due("none", x.rings(), 0);
        x.wait(0, 0, 1);
        x.wait(1, 0, 2);
        x.wait(2, 0, 3);
        due("no ring yet", x.rings(), 0);
        x.wait(3, 0, 0);
        due("the set of all alone", x.rings(), 1 << 14);
        x.wait(1, 0, 0);
        due("the sets with a and b", x.rings(), 1 << 2 | 1 << 6 | 1 << 10 | 1 << 14);
        StoryNest y = nest("1:1", "1:1");
        y.wait(0, 1, 1);
        y.wait(1, 1, 0);
        for (int deep = 1; deep <= 4; deep++) {
            due("ways", y.ways(3, deep), 0);
        }
        due("last parts", y.rings(), 1 << 2 | 1 << 6 | 1 << 10 | 1 << 14);
        y.set(0, 2);
        due("by any law", y.rings(), 1 << 2 | 1 << 6 | 1 << 10 | 1 << 14);
    }

    private static void fewestWaits() {
        StoryNest x = nest("1:1", "1:1");
        due("no waits", x.dropped(3), 0);
        x.wait(0, 0, 1);
        x.wait(0, 1, 1);
        due("no ring", x.dropped(3), 0);
        x.wait(1, 0, 0);
        due("one of more worth than two of less", x.dropped(3), 4);
        x.wait(2, 0, 3);
        x.wait(3, 0, 2);
        due("another ring does not count", x.dropped(3), 4);
        due("that ring alone", x.dropped(12), 8);
        due("both rings", x.dropped(15), 12);
        due("one story", x.dropped(1), 0);
    }

    private static void leastAsBits() {
        StoryNest x = new StoryNest();
        x.wait(0, 0, 1);
        x.wait(1, 0, 0);
        x.wait(0, 0, 2);
        x.wait(2, 0, 0);
        x.wait(1, 0, 2);
        x.wait(2, 0, 1);
        due("of a and b", x.dropped(3), 1);
        due("of a and c", x.dropped(5), 4);
        due("of b and c", x.dropped(6), 16);
        due("of all three", x.dropped(7), 21);
        due("of all four", x.dropped(15), 21);
        due("of a and d", x.dropped(9), 0);
    }

    // ---- 4: heard, left

    private static void heardAndLeft() {
        says("HEARD: EVENINGS of PARTS of any STORIES (not all must be TOLD OUT) that are good and sound like the"
            + " WALL, minute by minute of PARTS:", StoryNestTerms::soundsLikeTheWall);
        says("how many;", StoryNestTerms::howManyHeard);
        says("the first by letters;", StoryNestTerms::firstHeard);
        says("WHO: STORIES that can have told the PART at a place of it, as bits.", StoryNestTerms::whoTold);
        says("LEFT: behind the EVENING on the PAD a TELLER leaves: his STORIES that are OPEN;",
            StoryNestTerms::leftOpen);
        says("CLOSED by: TELLERS (others) that KNOW all of these, and have none OPEN, as bits.",
            StoryNestTerms::closedBy);
        says("The constants: `UNKNOWN = -1, OUTSIDE = -2, STATE = -3, FULL = -4, NO = -5, NONE = -6`: What refused"
            + " calls answer; NONE: there is none.", StoryNestTerms::constants);
    }

    private static void soundsLikeTheWall() {
        StoryNest x = nest("2:1", "1:2", "3", "3");
        heard(x, "2", 1);
        heard(x, "1", 1);
        heard(x, "4", 0);
        heard(x, "21", 2);
        heard(x, "212", 1);
        heard(x, "2121", 1);
        heard(x, "21213", 2);
        heard(x, "21214", 0);
        x.set(1, 9);
        heard(x, "2121", 1);
        x.set(0, 1);
        heard(x, "2121", 0);
        heard(x, "2112", 2);
        x.teller(1, 0);
        heard(x, "21", 1);
        x.wait(0, 1, 3);
        heard(x, "21", 0);
        heard(x, "231", 1);
        StoryNest y = nest("1:8", "2:7", "3:6", "4:5");
        heard(y, "12345678", 1);
        same("all four are open at once", first(y, "12345678"), "abcddcba");
    }

    private static void howManyHeard() {
        StoryNest x = nest("1:1:1:1", "1:1:1:1", "1:1:1:1", "1:1:1:1");
        heard(x, "", 1);
        heard(x, "1", 4);
        heard(x, "11", 16);
        heard(x, "9", 0);
        x.set(0, 2);
        heard(x, "11", 16);
        heard(x, "111", 64);
        heard(x, "1111111111111111", 63063000L);
        StoryNest y = new StoryNest();
        heard(y, "1111", 24);
        heard(y, "11111", 0);
    }

    private static void firstHeard() {
        StoryNest x = nest("2:1", "1:2", "3", "3");
        same("both", first(x, "21"), "aa");
        same("b in a alone", first(x, "2121"), "abba");
        same("c ahead of d", first(x, "33"), "cd");
        same("none", first(x, "333"), "");
        same("nothing", first(x, ""), "");
        x.wait(2, 0, 3);
        same("c behind d", first(x, "33"), "dc");
    }

    private static void who(StoryNest x, String wall, int... want) {
        type(x, wall);
        for (int place = 0; place < want.length; place++) {
            due("who at " + place + " of " + wall, x.who(place), want[place]);
        }
    }

    private static void whoTold() {
        StoryNest x = nest("2:1", "1:2", "3", "3");
        who(x, "", NONE);
        who(x, "2", 1, NONE);
        who(x, "21", 1, 3, NONE);
        who(x, "213", 1, 3, 12, NONE);
        who(x, "2121", 1, 2, 2, 1, NONE);
        who(x, "33", 12, 12, NONE);
        who(x, "219", 0, 0, 0, NONE);
        who(x, "12", 2, 3, NONE);
        x.wait(0, 0, 1);
        who(x, "12", 2, 2, NONE);
        who(nest("1:8", "2:7", "3:6", "4:5"), "12345678", 1, 2, 4, 8, 8, 4, 2, 1, NONE);
    }

    private static void leftOpen() {
        StoryNest x = nest("1:1", "1:1", "1");
        x.teller(0, 3);
        for (int t = 0; t < 4; t++) {
            type(x, "");
            due("nothing is told", x.left(t, 0), 0);
            type(x, "a");
            due("a is open", x.left(t, 0), t == 3 ? 1 : 0);
            type(x, "ab");
            due("a and b are open", x.left(t, 0), t == 3 ? 1 : t == 1 ? 2 : 0);
            type(x, "abbac");
            due("all are told out", x.left(t, 0), 0);
        }
        StoryNest y = nest("1", "1", "1:1", "1:1");
        type(y, "dc");
        due("d", y.left(3, 0), 8);
        due("c", y.left(2, 0), 4);
    }

    private static void closedBy() {
        StoryNest x = nest("1:1", "1:1", "1");
        type(x, "a");
        due("none knows a", x.left(0, 1), 0);
        x.knows(0, 15);
        due("not he himself", x.left(0, 1), 0);
        x.knows(1, 1);
        x.knows(3, 14);
        due("b's teller knows a", x.left(0, 1), 2);
        x.knows(3, 15);
        x.knows(2, 1);
        due("all others", x.left(0, 1), 14);
        type(x, "ab");
        due("b's teller has one open", x.left(0, 1), 12);
        due("b: a's teller has one open, c's does not know it", x.left(1, 1), 8);
        due("nothing is left: a's and b's have one open", x.left(2, 1), 8);
        due("nothing is left, nothing must be known", x.left(3, 1), 4);
        type(x, "abba");
        due("none is open", x.left(3, 1), 7);
        x.knows(0, 0);
        due("none is open, one knows nothing", x.left(3, 1), 7);
    }

    private static void constants() {
        due("UNKNOWN", StoryNest.UNKNOWN, -1);
        due("OUTSIDE", StoryNest.OUTSIDE, -2);
        due("STATE", StoryNest.STATE, -3);
        due("FULL", StoryNest.FULL, -4);
        due("NO", StoryNest.NO, -5);
        due("NONE", StoryNest.NONE, -6);
    }
}
