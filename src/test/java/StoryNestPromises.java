/** The promises of the document, one method for each: ordinary inputs, the edges that it names, wrong inputs. */
public final class StoryNestPromises {
    private static final int UNKNOWN = -1, OUTSIDE = -2, STATE = -3, FULL = -4, NO = -5, NONE = -6;
    private static final int MIN = Integer.MIN_VALUE, MAX = Integer.MAX_VALUE;
    private static int wrong = 0;
    private static int right = 0;

    private static void due(String what, long got, long want) {
        if (got == want) {
            right++;
        } else {
            wrong++;
            System.out.println(what + " answered " + got + ", due is " + want);
        }
    }

    private static void type(StoryNest x, String text) {
        x.wipe();
        for (char c : text.toCharArray()) {
            x.say(c);
        }
    }

    private static StoryNest nest(String... stories) {
        StoryNest x = new StoryNest();
        for (int s = 0; s < stories.length; s++) {
            type(x, stories[s]);
            due("story " + stories[s], x.story(s), stories[s].replace(":", "").length());
        }
        return x;
    }

    private static int judged(StoryNest x, String evening, int what) {
        type(x, evening);
        return x.judge(what);
    }

    /** An evening whose first wrong part is its last one. */
    private static void bad(StoryNest x, String evening, int why) {
        due("place of " + evening, judged(x, evening, 0), evening.length() - 1);
        due("why of " + evening, judged(x, evening, 1), why);
        due("state of " + evening, x.evening(0), STATE);
    }

    private static void good(StoryNest x, String evening, int open, int deep, int minutes) {
        due("place of " + evening, judged(x, evening, 0), NONE);
        due("why of " + evening, x.judge(1), NONE);
        due("open of " + evening, x.evening(0), open);
        due("deep of " + evening, x.evening(1), deep);
        due("minutes of " + evening, x.evening(2), minutes);
    }

    private static String shortest(StoryNest x, int set, int deep) {
        StringBuilder all = new StringBuilder();
        for (int i = 0; i < 20; i++) {
            int c = x.shortest(set, deep, i);
            if (c != NONE) {
                all.append((char) c);
            }
        }
        return all.toString();
    }

    private static String ends(StoryNest x, int story, int set, int deep) {
        StringBuilder all = new StringBuilder();
        for (int i = 0; x.ends(story, set, deep, i) != NONE; i++) {
            all.append(i == 0 ? "" : " ").append(x.ends(story, set, deep, i));
        }
        return all.toString();
    }

    private static String first(StoryNest x) {
        StringBuilder all = new StringBuilder();
        for (int i = 0; x.first(i) != NONE; i++) {
            all.append((char) x.first(i));
        }
        return all.toString();
    }

    private static void text(String what, String got, String want) {
        if (!got.equals(want)) {
            System.out.println(what + " answered '" + got + "', due is '" + want + "'");
        }
        due(what, got.equals(want) ? 1 : 0, 1);
    }

    public static void main(String[] args) {
        p1();
        p2();
        p3();
        p4();
        p5();
        p6();
        p7();
        p8();
        p9();
        p10();
        p11();
        p12Reasons();
        p12Laws();
        p13();
        p14();
        p15();
        p16();
        p17();
        p18();
        p19();
        p20();
        p21();
        p22();
        p23();
        p24and25();
        p26();
        questionsFollowChanges();
        extremes();
        System.out.println("promises: " + right + " passed, " + wrong + " failed");
        if (wrong != 0) {
            System.exit(1);
        }
    }

    private static void p1() {
        StoryNest x = new StoryNest();
        for (int s = 0; s < 4; s++) {
            due("1 parts", x.about(s, 0), 1);
            due("1 minutes", x.about(s, 1), 1);
            due("1 gates", x.about(s, 2), 0);
            due("1 teller", x.told(10 + s), s);
            due("1 knows", x.told(20 + s), 1 << s);
        }
        for (int what = 0; what < 4; what++) {
            due("1 told " + what, x.told(what), 0);
        }
        due("1 no wait", x.told(30), NONE);
        due("1 no image 0", x.restore(0), STATE);
        due("1 no image 1", x.restore(1), STATE);
    }

    private static void p2() {
        StoryNest x = new StoryNest();
        due("2 below", x.say(32), OUTSIDE);
        due("2 above", x.say(127), OUTSIDE);
        due("2 least", x.say(33), 1);
        due("2 most", x.say(126), 2);
        for (int n = 3; n <= 30; n++) {
            due("2 sign " + n, x.say('x'), n);
        }
        due("2 full", x.say('x'), FULL);
        due("2 outside ahead of full", x.say(32), OUTSIDE);
        due("2 nothing changed", x.told(0), 30);
    }

    private static void p3() {
        StoryNest x = new StoryNest();
        due("3 none", x.wipe(), 0);
        x.say('a');
        x.say('b');
        due("3 two", x.wipe(), 2);
        due("3 gone", x.wipe(), 0);
        due("3 anew", x.say('c'), 1);
        due("3 the new sign stands", x.fault(1), NONE);
    }

    private static void faults(String pad, int asStory, int asEvening, int asWall) {
        StoryNest x = new StoryNest();
        type(x, pad);
        due("4 story " + pad, x.fault(0), asStory);
        due("4 evening " + pad, x.fault(1), asEvening);
        due("4 wall " + pad, x.fault(2), asWall);
    }

    private static void p4() {
        faults("", 0, NONE, NONE);
        faults("1", NONE, 0, NONE);
        faults("9", NONE, 0, NONE);
        faults("0", 0, 0, 0);
        faults("a", 0, NONE, 0);
        faults("d", 0, NONE, 0);
        faults("e", 0, 0, 0);
        faults("`", 0, 0, 0);
        faults(":", 0, 0, 0);
        faults("1:", 2, 0, 1);
        faults("1::1", 2, 0, 1);
        faults("12:3", NONE, 0, 2);
        faults("1234", NONE, 0, NONE);
        faults("12345", 4, 0, NONE);
        faults("1:2:3:", 6, 0, 1);
        faults("1:2:3:4", NONE, 0, 1);
        faults("1:2:3:4:", 7, 0, 1);
        faults("1234:", 4, 0, 4);
        faults("12a", 2, 0, 2);
        faults("ab1", 0, 2, 0);
        faults("abcdabcdabcdabcd", 0, NONE, 0);
        faults("abcdabcdabcdabcda", 0, 16, 0);
        faults("abcdabcdaxcdabcda", 0, 9, 0);
        faults("1234123412341234", 4, 0, NONE);
        faults("12341234123412341", 4, 0, 16);
        StoryNest x = new StoryNest();
        due("4 how -1", x.fault(-1), OUTSIDE);
        due("4 how 3", x.fault(3), OUTSIDE);
    }

    private static void p5() {
        StoryNest x = new StoryNest();
        due("5 nothing", x.story(0), NO);
        type(x, "7:");
        due("5 fault", x.story(0), NO);
        due("5 the pad stays", x.told(0), 2);
        due("5 unknown ahead of no", x.story(4), UNKNOWN);
        due("5 unknown", x.story(-1), UNKNOWN);
        x.say('8');
        due("5 two parts", x.story(1), 2);
        due("5 the pad is empty", x.told(0), 0);
        due("5 first part", x.about(1, 10), 7);
        due("5 second part", x.about(1, 11), 8);
        type(x, "3");
        due("5 shorter", x.story(1), 1);
        due("5 no second part", x.about(1, 11), NONE);
        due("5 no gate", x.about(1, 2), 0);
        due("5 others stay", x.about(0, 1), 1);
        waitsBeyondGo();
    }

    private static void waitsBeyondGo() {
        StoryNest x = nest("1:1:1:1", "1:1:1:1");
        x.wait(0, 3, 1);
        x.wait(0, 1, 1);
        x.wait(1, 3, 0);
        x.wait(0, 2, 3);
        x.wait(0, 0, 2);
        type(x, "55");
        due("5 rewritten", x.story(0), 2);
        due("5 three waits stay", x.told(1), 3);
        due("5 stays 0", x.told(30), 11);
        due("5 stays 1", x.told(31), 130);
        due("5 stays 2", x.told(32), 2);
        due("5 no more", x.told(33), NONE);
        type(x, "1:1:1:1");
        x.story(0);
        bad(x, "caa", 5);
        type(x, "cabbb");
        due("5 the wait of b's last part stays", x.judge(0), NONE);
        bad(x, "cabbbb", 5);
    }

    private static void p6() {
        StoryNest x = nest("2:39:4");
        due("6 parts", x.about(0, 0), 4);
        due("6 minutes", x.about(0, 1), 18);
        due("6 gates", x.about(0, 2), 5);
        due("6 part 0", x.about(0, 10), 2);
        due("6 part 1", x.about(0, 11), 3);
        due("6 part 2", x.about(0, 12), 9);
        due("6 part 3", x.about(0, 13), 4);
        due("6 other story", x.about(3, 10), 1);
        due("6 no part", x.about(3, 11), NONE);
        due("6 no part 3", x.about(3, 13), NONE);
        for (int what : new int[] {-1, 3, 9, 14, MIN, MAX}) {
            due("6 what " + what, x.about(0, what), OUTSIDE);
        }
        due("6 story 4", x.about(4, 0), UNKNOWN);
        due("6 story -1 ahead of what", x.about(-1, 99), UNKNOWN);
    }

    private static void p7() {
        StoryNest x = new StoryNest();
        due("7 was", x.teller(2, 0), 2);
        due("7 is", x.teller(2, 3), 0);
        due("7 told", x.told(12), 3);
        due("7 other", x.told(10), 0);
        due("7 story 4", x.teller(4, 0), UNKNOWN);
        due("7 story -1", x.teller(-1, 0), UNKNOWN);
        due("7 teller 4", x.teller(0, 4), UNKNOWN);
        due("7 teller -1", x.teller(0, -1), UNKNOWN);
        due("7 nothing changed", x.told(10), 0);
    }

    private static void p8() {
        StoryNest x = new StoryNest();
        due("8 was", x.knows(3, 0), 8);
        due("8 is", x.knows(3, 15), 0);
        due("8 told", x.told(23), 15);
        due("8 above", x.knows(3, 16), OUTSIDE);
        due("8 below", x.knows(3, -1), OUTSIDE);
        due("8 unknown", x.knows(4, 1), UNKNOWN);
        due("8 unknown ahead of outside", x.knows(-1, 16), UNKNOWN);
        due("8 nothing changed", x.told(23), 15);
    }

    private static void p9() {
        StoryNest x = nest("1:1", "1:1", "1");
        due("9 number", x.wait(0, 0, 1), 0);
        due("9 next number", x.wait(0, 1, 1), 1);
        due("9 there already", x.wait(0, 0, 1), NO);
        due("9 there already, too", x.wait(0, 1, 1), NO);
        due("9 no part", x.wait(0, 2, 1), UNKNOWN);
        due("9 part -1", x.wait(0, -1, 1), UNKNOWN);
        due("9 no story", x.wait(4, 0, 1), UNKNOWN);
        due("9 story -1", x.wait(-1, 0, 1), UNKNOWN);
        due("9 no other", x.wait(0, 0, 4), UNKNOWN);
        due("9 other -1", x.wait(0, 0, -1), UNKNOWN);
        due("9 itself", x.wait(1, 0, 1), UNKNOWN);
        due("9 two", x.told(1), 2);
        for (int o = 0; o < 3; o++) {
            due("9 of d", x.wait(3, 0, o), 2 + o);
        }
        due("9 sixth", x.wait(2, 0, 3), 5);
        due("9 full", x.wait(2, 0, 1), FULL);
        due("9 no ahead of full", x.wait(2, 0, 3), NO);
        due("9 unknown ahead of full", x.wait(2, 1, 3), UNKNOWN);
        due("9 six", x.told(1), 6);
    }

    private static void p10() {
        StoryNest x = nest("1:1");
        x.wait(0, 0, 1);
        x.wait(0, 1, 2);
        x.wait(0, 1, 3);
        due("10 none such", x.drop(3), UNKNOWN);
        due("10 none below", x.drop(-1), UNKNOWN);
        due("10 left", x.drop(1), 2);
        due("10 first stays", x.told(30), 1);
        due("10 moves up", x.told(31), 13);
        due("10 no third", x.told(32), NONE);
        due("10 first goes", x.drop(0), 1);
        good(x, "a", 1, 1, 1);
        bad(x, "aa", 5);
        due("10 last goes", x.drop(0), 0);
        good(x, "aa", 0, 1, 2);
        due("10 empty", x.drop(0), UNKNOWN);
    }

    private static void p11() {
        StoryNest x = new StoryNest();
        due("11 law was", x.set(0, 2), 0);
        due("11 law is", x.set(0, 1), 2);
        due("11 breath was", x.set(1, 9), 0);
        due("11 breath is", x.set(1, 0), 9);
        due("11 law told", x.told(2), 1);
        due("11 breath told", x.told(3), 0);
        due("11 law above", x.set(0, 3), OUTSIDE);
        due("11 law below", x.set(0, -1), OUTSIDE);
        due("11 breath above", x.set(1, 10), OUTSIDE);
        due("11 breath below", x.set(1, -1), OUTSIDE);
        due("11 which below", x.set(-1, 0), OUTSIDE);
        due("11 which above", x.set(2, 0), OUTSIDE);
        due("11 nothing changed", x.told(2) + x.told(3), 1);
    }

    private static void p12Reasons() {
        StoryNest x = nest("1:11", "1:1", "1");
        bad(x, "cc", 1);
        bad(x, "aba", 2);
        bad(x, "aac", 3);
        x.teller(2, 0);
        bad(x, "ac", 4);
        bad(x, "aac", 3);
        x.wait(2, 0, 3);
        bad(x, "c", 5);
        bad(x, "ac", 4);
        bad(x, "dcc", 1);
        x.wait(0, 1, 3);
        bad(x, "aba", 2);
        bad(x, "abba", 5);
        x.wait(0, 2, 1);
        bad(x, "adaa", 5);
        due("12 first place", judged(x, "abaaa", 0), 2);
        due("12 empty", judged(x, "", 0), NONE);
        due("12 what 2", x.judge(2), OUTSIDE);
        due("12 what -1", x.judge(-1), OUTSIDE);
        type(x, "ab1");
        due("12 fault", x.judge(0), NO);
        due("12 outside ahead of no", x.judge(2), OUTSIDE);
    }

    private static void p12Laws() {
        StoryNest x = nest("1:1:1", "1:1:1", "1:1", "1");
        good(x, "abcdcbbaa", 0, 4, 9);
        bad(x, "abcb", 2);
        x.set(0, 1);
        bad(x, "abb", 2);
        good(x, "abaca", 6, 3, 5);
        good(x, "abacab", 6, 3, 6);
        bad(x, "abacac", 2);
        good(x, "abacabbc", 0, 3, 8);
        x.set(0, 2);
        good(x, "abcabcab", 0, 3, 8);
        gatesByLaw();
    }

    private static void gatesByLaw() {
        StoryNest x = nest("1:1", "11", "1");
        bad(x, "abc", 3);
        x.set(0, 1);
        good(x, "abc", 3, 3, 3);
        x.set(0, 2);
        good(x, "abc", 3, 3, 3);
        bad(x, "abac", 3);
        good(x, "abbca", 0, 2, 5);
        StoryNest y = nest("11:1", "1:1", "1");
        bad(y, "ab", 3);
        good(y, "aab", 3, 2, 3);
        good(y, "aabba", 0, 2, 5);
        y.set(0, 1);
        bad(y, "ab", 3);
        good(y, "aaba", 2, 2, 4);
        bad(y, "aabaa", 1);
        good(y, "aabab", 0, 2, 5);
    }

    private static void p13() {
        StoryNest x = nest("2:3:4", "5:6", "7");
        x.set(1, 3);
        good(x, "", 0, 0, 0);
        good(x, "a", 1, 1, 2);
        good(x, "c", 0, 1, 7);
        good(x, "ac", 1, 2, 2 + 3 + 7);
        good(x, "abcb", 1, 3, 2 + 5 + 7 + 6 + 9);
        good(x, "aabbacd", 0, 2, 5 + 3 + 11 + 3 + 4 + 3 + 7 + 3 + 1);
        x.teller(3, 2);
        good(x, "cd", 0, 1, 8);
        due("13 what 3", x.evening(3), OUTSIDE);
        due("13 what -1", x.evening(-1), OUTSIDE);
        type(x, "cc");
        due("13 not good", x.evening(2), STATE);
        type(x, "cc!");
        due("13 fault", x.evening(2), NO);
        due("13 outside ahead", x.evening(3), OUTSIDE);
    }

    private static void p14() {
        StoryNest x = nest("1:1", "1:1", "1");
        due("14 one", x.ways(1, 1), 1);
        due("14 two, one open", x.ways(3, 1), 2);
        due("14 two, two open", x.ways(3, 2), 4);
        x.set(0, 2);
        due("14 any", x.ways(3, 2), 6);
        x.teller(1, 0);
        due("14 one teller", x.ways(3, 2), 2);
        x.teller(1, 1);
        x.wait(0, 1, 1);
        due("14 a waits for b", x.ways(3, 2), 3);
        due("14 b is not of the set", x.ways(5, 1), 2);
        due("14 b is not of the set, two open", x.ways(5, 2), 3);
        x.wait(1, 0, 0);
        due("14 ring", x.ways(3, 4), 0);
        due("14 set 0", x.ways(0, 1), OUTSIDE);
        due("14 set 16", x.ways(16, 1), OUTSIDE);
        due("14 deep 0", x.ways(1, 0), OUTSIDE);
        due("14 deep 5", x.ways(1, 5), OUTSIDE);
        StoryNest y = nest("1:1:1:1", "1:1:1:1", "1:1:1:1", "1:1:1:1");
        due("14 most, inner: 4! times the forests of 3 gates", y.ways(15, 4), 3360);
        y.set(0, 2);
        due("14 most, any: 16! / 4!^4", y.ways(15, 4), 63063000);
    }

    private static void p15() {
        StoryNest x = nest("2:3", "1:4", "5");
        due("15 no breath", x.shortest(7, 3, -1), 15);
        text("15 first of all", shortest(x, 7, 3), "aabbc");
        x.set(1, 2);
        due("15 two changes", x.shortest(7, 4, -1), 19);
        x.wait(0, 1, 1);
        due("15 b first", x.shortest(7, 4, -1), 19);
        text("15 b first", shortest(x, 7, 4), "bbaac");
        x.set(1, 0);
        text("15 no breath, b in a", shortest(x, 7, 4), "abbac");
        text("15 one open", shortest(x, 7, 1), "bbaac");
        x.set(1, 9);
        x.teller(2, 0);
        due("15 c is told by a's teller", x.shortest(7, 4, -1), 24);
        text("15 c is told by a's teller", shortest(x, 7, 4), "bbaac");
        x.wait(1, 0, 0);
        due("15 ring", x.shortest(7, 4, -1), NONE);
        due("15 ring, no letter", x.shortest(7, 4, 0), NONE);
        due("15 of c", x.shortest(4, 1, 0), 'c');
        due("15 beyond", x.shortest(4, 1, 1), NONE);
        due("15 far beyond", x.shortest(4, 1, MAX), NONE);
        due("15 i -2", x.shortest(4, 1, -2), OUTSIDE);
        due("15 set", x.shortest(16, 1, -1), OUTSIDE);
        due("15 deep", x.shortest(4, 5, -1), OUTSIDE);
    }

    private static void p16() {
        StoryNest x = nest("2:3", "1:4", "5");
        text("16 alone", ends(x, 0, 1, 1), "5");
        text("16 one open", ends(x, 0, 3, 1), "5 10");
        text("16 b, one open", ends(x, 1, 3, 1), "5 10");
        text("16 b in a", ends(x, 1, 3, 2), "5 7 10");
        x.set(1, 7);
        text("16 without breath", ends(x, 1, 3, 2), "5 7 10");
        due("16 how many", x.ends(1, 3, 2, -1), 3);
        x.wait(1, 0, 0);
        text("16 b behind a", ends(x, 1, 3, 2), "10");
        x.wait(0, 0, 1);
        due("16 ring", x.ends(1, 3, 2, -1), 0);
        due("16 ring, none", x.ends(1, 3, 2, 0), NONE);
        due("16 beyond", x.ends(1, 2, 1, 1), NONE);
        due("16 not of the set", x.ends(2, 3, 1, -1), UNKNOWN);
        due("16 story 4", x.ends(4, 15, 1, -1), UNKNOWN);
        due("16 story -1", x.ends(-1, 15, 1, -1), UNKNOWN);
        due("16 not of the set ahead of outside", x.ends(2, 3, 5, -1), UNKNOWN);
        due("16 no set", x.ends(0, 0, 1, -1), UNKNOWN);
        due("16 set 17", x.ends(0, 17, 1, -1), OUTSIDE);
        due("16 deep 0", x.ends(0, 1, 0, -1), OUTSIDE);
        due("16 deep 5", x.ends(0, 1, 5, -1), OUTSIDE);
        due("16 i -2", x.ends(0, 1, 1, -2), OUTSIDE);
        deadEndsDoNotCount();
    }

    private static void deadEndsDoNotCount() {
        StoryNest x = nest("1:1", "2:2", "9");
        x.wait(1, 1, 0);
        text("16 a in b would hold both, so only ends of whole evenings count", ends(x, 0, 3, 2), "2 4");
        x.wait(2, 0, 1);
        text("16 c behind b", ends(x, 2, 7, 4), "15");
        // c at minute 7 wants a and b both open: b in a can not end, as b waits for a; a in b can not, as a waits for
        // d, whose teller has b open.
        StoryNest y = nest("1:1", "2:2", "4", "8");
        y.wait(1, 1, 0);
        y.wait(0, 1, 3);
        text("16 before d has b's teller", ends(y, 2, 15, 4), "4 5 6 7 12 13 14 15 16 18");
        y.teller(3, 1);
        text("16 when d has b's teller", ends(y, 2, 15, 4), "4 5 12 13 14 15 16 18");
        StoryNest z = nest("9:9:9:9", "9:9:9:9", "9:9:9:9", "9:9:9:9");
        due("16 the last minute of all", z.ends(0, 15, 4, z.ends(0, 15, 4, -1) - 1), 144);
        due("16 16 parts, the first end at 36", z.ends(0, 15, 4, -1), 13);
        z.wait(0, 0, 1);
        z.wait(0, 0, 2);
        z.wait(0, 0, 3);
        text("16 a last", ends(z, 0, 15, 4), "144");
        text("16 the marks are cleared", ends(z, 0, 1, 1), "36");
        due("17 the last minute", z.turns(0, 15, 144, 0), 1);
    }

    /** Each call that changes the book, between two of the same question. */
    private static void questionsFollowChanges() {
        StoryNest x = nest("1:1", "1:1");
        due("ways of a and b", x.ways(3, 2), 4);
        type(x, "11");
        x.story(0);
        due("story: no gate in a", x.ways(3, 2), 3);
        x.image(0);
        x.wait(0, 1, 1);
        due("wait: b first", x.ways(3, 2), 1);
        x.drop(0);
        due("drop: as before", x.ways(3, 2), 3);
        x.teller(0, 1);
        due("teller: one behind the other", x.ways(3, 2), 2);
        x.teller(0, 0);
        due("teller: as before", x.ways(3, 2), 3);
        x.set(0, 2);
        due("set: b's gate alone", x.ways(3, 2), 4);
        x.restore(0);
        due("restore: as it was", x.ways(3, 2), 3);
        due("another set", x.ways(1, 2), 1);
        due("another depth", x.ways(3, 1), 2);
        x.wait(0, 1, 1);
        due("b first, b's part may wait", x.wait(1, 1, 0), 1);
        due("ring", x.ways(3, 2), 0);
        type(x, "5");
        x.story(1);
        type(x, "1:1");
        x.story(1);
        due("story: the wait has gone, nothing of it stays", x.ways(3, 2), 1);
    }

    private static void p17() {
        StoryNest x = nest("2:3", "1:4", "5");
        due("17 alone", x.turns(0, 1, 5, 0), 1);
        due("17 alone, begins", x.turns(0, 1, 5, 1), 0);
        due("17 alone, other minute", x.turns(0, 1, 4, 0), 0);
        due("17 alone, other minute, begins", x.turns(0, 1, 4, 1), NONE);
        due("17 c at once", x.turns(2, 7, 5, 1), 2);
        due("17 side 1 tells another", x.turns(0, 3, 5, 0), 0);
        due("17 minute 0", x.turns(0, 1, 0, 0), 0);
        due("17 minute 144", x.turns(0, 1, 144, 0), 0);
        due("17 minute -1", x.turns(0, 1, -1, 0), OUTSIDE);
        due("17 minute 145", x.turns(0, 1, 145, 0), OUTSIDE);
        due("17 what 2", x.turns(0, 1, 5, 2), OUTSIDE);
        due("17 what -1", x.turns(0, 1, 5, -1), OUTSIDE);
        due("17 set 17", x.turns(0, 17, 5, 0), OUTSIDE);
        due("17 not of the set", x.turns(2, 3, 5, 0), UNKNOWN);
        due("17 story 4", x.turns(4, 15, 5, 0), UNKNOWN);
        due("17 unknown ahead of outside", x.turns(2, 3, 145, 2), UNKNOWN);
        turnsWithoutGates();
    }

    private static void turnsWithoutGates() {
        StoryNest x = nest("23", "14", "5");
        due("17 nobody can break in", x.turns(0, 7, 5, 0), 1);
        due("17 a begins", x.turns(0, 7, 5, 1), 0);
        due("17 b whole, then side 0 begins a", x.turns(0, 7, 10, 0), 1);
        due("17 b begins", x.turns(0, 7, 10, 1), 1);
        x.set(1, 9);
        due("17 without breath", x.turns(0, 7, 10, 0), 1);
        x.wait(0, 0, 1);
        due("17 a waits", x.turns(0, 7, 5, 0), 0);
        due("17 b is not of the set", x.turns(0, 5, 5, 0), 1);
        x.wait(1, 0, 0);
        due("17 none can come", x.turns(0, 3, 10, 0), 0);
        due("17 none can come, begins", x.turns(0, 3, 10, 1), NONE);
    }

    private static void p18() {
        StoryNest x = nest("1:1", "1:1", "1:1");
        due("18 no waits", x.rings(), 0);
        x.wait(0, 1, 1);
        x.wait(1, 1, 2);
        due("18 no ring", x.rings(), 0);
        x.wait(2, 1, 0);
        due("18 ring of three", x.rings(), 1 << 6 | 1 << 14);
        x.wait(1, 1, 0);
        due("18 ring of two", x.rings(), 1 << 2 | 1 << 6 | 1 << 10 | 1 << 14);
    }

    private static void p19() {
        StoryNest x = nest("1:1", "1:1", "1:1");
        due("19 nothing", x.dropped(15), 0);
        x.wait(0, 0, 1);
        x.wait(0, 1, 1);
        x.wait(1, 0, 0);
        due("19 one is fewer than two", x.dropped(3), 4);
        x.wait(1, 1, 0);
        due("19 two, the least", x.dropped(3), 3);
        due("19 not of the set", x.dropped(13), 0);
        x.wait(1, 0, 2);
        x.wait(2, 0, 1);
        due("19 two rings", x.dropped(7), 3 | 16);
        due("19 the other ring", x.dropped(6), 16);
        due("19 set 0", x.dropped(0), OUTSIDE);
        due("19 set 16", x.dropped(16), OUTSIDE);
        due("19 set -1", x.dropped(-1), OUTSIDE);
        due("19 nothing is dropped", x.told(1), 6);
    }

    private static void p20() {
        StoryNest x = nest("2:1", "1:2", "3", "3");
        due("20 nothing", x.heard(), 1);
        type(x, "3");
        due("20 c or d", x.heard(), 2);
        type(x, "33");
        due("20 cd, dc", x.heard(), 2);
        type(x, "333");
        due("20 none", x.heard(), 0);
        type(x, "21");
        due("20 aa, ab", x.heard(), 2);
        type(x, "2121");
        due("20 abba alone", x.heard(), 1);
        x.set(0, 1);
        due("20 outer", x.heard(), 0);
        x.set(0, 2);
        due("20 any", x.heard(), 1);
        x.wait(1, 0, 2);
        type(x, "21");
        due("20 b waits", x.heard(), 1);
        type(x, "12345678912345678");
        due("20 too long", x.heard(), NO);
        type(x, "21a");
        due("20 fault", x.heard(), NO);
        StoryNest y = nest("1:1:1:1", "1:1:1:1", "1:1:1:1", "1:1:1:1");
        type(y, "1111111111111111");
        due("20 all", y.heard(), 3360);
    }

    private static void p21() {
        StoryNest x = nest("2:1", "1:2", "3", "3");
        due("21 nothing", x.first(0), NONE);
        type(x, "2133");
        text("21 first", first(x), "aacd");
        due("21 i -1", x.first(-1), NONE);
        due("21 i 4", x.first(4), NONE);
        type(x, "2121");
        text("21 b in a", first(x), "abba");
        type(x, "9");
        due("21 none", x.first(0), NONE);
        type(x, "0");
        due("21 fault", x.first(0), NO);
        due("21 fault ahead", x.first(-1), NO);
    }

    private static void p22() {
        StoryNest x = nest("2:1", "1:2", "3", "3");
        due("22 no place", x.who(0), NONE);
        type(x, "213");
        due("22 a", x.who(0), 1);
        due("22 a or b", x.who(1), 3);
        due("22 c or d", x.who(2), 12);
        due("22 no place 3", x.who(3), NONE);
        due("22 no place -1", x.who(-1), NONE);
        type(x, "2121");
        due("22 b alone", x.who(1), 2);
        due("22 a alone", x.who(3), 1);
        type(x, "219");
        due("22 none", x.who(0), 0);
        type(x, "21x");
        due("22 fault", x.who(0), NO);
        due("22 fault ahead", x.who(7), NO);
    }

    private static void p23() {
        StoryNest x = nest("1:1", "1:1", "1:1", "1");
        type(x, "ab");
        due("23 a", x.left(0, 0), 1);
        due("23 b", x.left(1, 0), 2);
        due("23 nothing", x.left(2, 0), 0);
        due("23 none knows a", x.left(0, 1), 0);
        x.knows(1, 15);
        due("23 b's teller has one open", x.left(0, 1), 0);
        x.knows(3, 3);
        x.knows(2, 1);
        due("23 c's and d's", x.left(0, 1), 12);
        due("23 d's alone", x.left(1, 1), 8);
        due("23 nothing to know, not himself", x.left(2, 1), 8);
        x.teller(0, 3);
        due("23 a is d's teller's", x.left(3, 0), 1);
        due("23 none of his own", x.left(0, 0), 0);
        due("23 who is free", x.left(1, 1), 0);
        due("23 closed by c's", x.left(3, 1), 5);
        due("23 teller 4", x.left(4, 0), UNKNOWN);
        due("23 teller -1 ahead", x.left(-1, 5), UNKNOWN);
        due("23 what 2", x.left(0, 2), OUTSIDE);
        due("23 what -1", x.left(0, -1), OUTSIDE);
        type(x, "dd");
        due("23 not good", x.left(0, 0), STATE);
        due("23 outside ahead of state", x.left(0, 2), OUTSIDE);
        type(x, "d1");
        due("23 fault", x.left(0, 0), NO);
    }

    private static void p24and25() {
        StoryNest x = nest("2:3", "4");
        x.teller(0, 1);
        x.knows(2, 9);
        x.wait(0, 1, 1);
        x.set(0, 1);
        x.set(1, 5);
        due("24 kept", x.image(1), 1);
        due("25 not kept", x.restore(0), STATE);
        type(x, "9:9:9");
        x.story(0);
        x.teller(0, 2);
        x.knows(2, 1);
        x.drop(0);
        x.wait(3, 0, 2);
        x.wait(3, 0, 1);
        x.set(0, 2);
        x.set(1, 6);
        due("24 the other image", x.image(0), 1);
        type(x, "ab");
        due("25 back", x.restore(1), 1);
        due("25 the pad stays", x.told(0), 2);
        due("25 parts", x.about(0, 0), 2);
        due("25 minutes", x.about(0, 1), 5);
        due("25 gates", x.about(0, 2), 1);
        due("25 teller", x.told(10), 1);
        due("25 knows", x.told(22), 9);
        due("25 waits", x.told(1), 1);
        due("25 wait", x.told(30), 11);
        due("25 law", x.told(2), 1);
        due("25 breath", x.told(3), 5);
        bad(x, "aa", 5);
        x.set(1, 1);
        due("25 again", x.restore(1), 1);
        due("25 the image has not changed", x.told(3), 5);
        x.image(1);
        due("24 kept again", x.restore(1), 1);
        due("25 the other one", x.restore(0), 1);
        due("25 other parts", x.about(0, 1), 27);
        due("25 other waits", x.told(31), 301);
        due("24 n 2", x.image(2), OUTSIDE);
        due("24 n -1", x.image(-1), OUTSIDE);
        due("25 n 2", x.restore(2), OUTSIDE);
        due("25 n -1", x.restore(-1), OUTSIDE);
    }

    private static void p26() {
        StoryNest x = nest("1:1:1:1");
        type(x, "xyz");
        x.set(0, 2);
        x.set(1, 7);
        x.teller(3, 1);
        x.knows(1, 5);
        x.wait(0, 3, 2);
        due("26 signs", x.told(0), 3);
        due("26 waits", x.told(1), 1);
        due("26 law", x.told(2), 2);
        due("26 breath", x.told(3), 7);
        due("26 teller", x.told(13), 1);
        due("26 knows", x.told(21), 5);
        due("26 wait", x.told(30), 32);
        due("26 no wait", x.told(31), NONE);
        due("26 no wait 35", x.told(35), NONE);
        for (int what : new int[] {-1, 4, 9, 14, 19, 24, 29, 36, MIN, MAX}) {
            due("26 what " + what, x.told(what), OUTSIDE);
        }
    }

    /** Numbers from the ends of int; none of them may do harm, and what changed nothing has changed nothing. */
    private static void extremes() {
        StoryNest x = nest("1:1", "1:1");
        int[] odd = {MIN, MIN + 1, -1, 4, 31, 32, 33, 64, MAX - 1, MAX};
        for (int a : odd) {
            due("say", x.say(a == 64 ? -64 : a == 33 ? 32 : a), OUTSIDE);
            due("story", x.story(a), UNKNOWN);
            due("about", x.about(a, 0), UNKNOWN);
            due("teller", x.teller(a, 0), UNKNOWN);
            due("teller", x.teller(0, a), UNKNOWN);
            due("knows", x.knows(a, 0), UNKNOWN);
            due("drop", x.drop(a), UNKNOWN);
            due("wait", x.wait(a, 0, 1) + x.wait(0, a, 1) + x.wait(0, 0, a), 3 * UNKNOWN);
            due("set", x.set(a, 0) + x.set(1, a == 4 ? 10 : a), 2 * OUTSIDE);
            due("ends", x.ends(a, 15, 4, -1), UNKNOWN);
            due("turns", x.turns(a, 15, 4, 0), UNKNOWN);
            due("left", x.left(a, 0), UNKNOWN);
            due("image", x.image(a) + x.restore(a), 2 * OUTSIDE);
        }
        due("ends of all bits", x.ends(0, -1, 4, -1), OUTSIDE);
        due("turns of all bits", x.turns(0, -1, 4, 0), OUTSIDE);
        due("ends, the least i", x.ends(0, 1, 1, MIN), OUTSIDE);
        due("ends, the most i", x.ends(0, 1, 1, MAX), NONE);
        due("about stays", x.about(0, 2), 1);
        due("told stays", x.told(1) + x.told(10) + x.told(0), 0);
    }
}
