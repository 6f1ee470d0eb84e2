import java.util.Random;

/** The same calls on StoryNest and on PlainNest, by a fixed seed: every answer must be the same. */
public final class StoryNestFuzz {
    private static final int CALLS = 400;
    private static final int[] ODD = {Integer.MIN_VALUE, -7, -3, -2, -1, 4, 5, 14, 15, 16, 17, 32, 99, Integer.MAX_VALUE};

    private static int wrong = 0;
    private static long asked = 0;
    private static final StringBuilder log = new StringBuilder();

    private static void same(String call, long got, long want) {
        asked++;
        log.append(call).append(" -> ").append(got).append('\n');
        if (got != want) {
            wrong++;
            if (wrong <= 3) {
                System.out.println(log);
            }
            System.out.println(call + " answered " + got + ", due is " + want);
        }
    }

    private static int any(Random r, int least, int most) {
        return r.nextInt(25) == 0 ? ODD[r.nextInt(ODD.length)] : least + r.nextInt(most - least + 1);
    }

    public static void main(String[] args) {
        int runs = args.length > 0 ? Integer.parseInt(args[0]) : 300;
        for (int seed = 1; seed <= runs && wrong == 0; seed++) {
            run(new Random(seed), seed);
        }
        for (int seed = 1; seed <= 6 && wrong == 0; seed++) {
            large(new Random(seed), seed % 2);
        }
        System.out.println("fuzz: " + asked + " answers, " + wrong + " not as due");
        if (wrong != 0) {
            System.exit(1);
        }
    }

    private static void run(Random r, int seed) {
        log.setLength(0);
        log.append("seed ").append(seed).append('\n');
        StoryNest x = new StoryNest();
        PlainNest p = new PlainNest();
        int size = 4 + r.nextInt(6);
        int minutes = 1 + r.nextInt(9);
        for (int n = 0; n < CALLS && wrong == 0; n++) {
            if (r.nextInt(3) == 0) {
                change(r, x, p, size, minutes);
            } else if (r.nextBoolean()) {
                text(r, x, p);
            } else {
                ask(r, x, p);
            }
        }
    }

    /** Four stories of four parts; under INNER and OUTER all their evenings can still be written out. */
    private static void large(Random r, int law) {
        log.setLength(0);
        StoryNest x = new StoryNest();
        PlainNest p = new PlainNest();
        for (int s = 0; s < 4; s++) {
            for (int part = 0; part < 4; part++) {
                type((part > 0 && r.nextInt(8) != 0 ? ":" : "") + (char) ('1' + r.nextInt(3)), x, p);
            }
            same("story(" + s + ")", x.story(s), p.story(s));
        }
        same("set(0," + law + ")", x.set(0, law), p.set(0, law));
        same("set(1,2)", x.set(1, 2), p.set(1, 2));
        for (int w = r.nextInt(4); w > 0; w--) {
            int s = r.nextInt(3);
            int part = r.nextInt(4);
            same("wait(" + s + "," + part + ",3)", x.wait(s, part, 3), p.waitFor(s, part, 3));
        }
        same("ways(15,4)", x.ways(15, 4), p.ways(15, 4));
        same("ways(15,2)", x.ways(15, 2), p.ways(15, 2));
        int s = r.nextInt(4);
        for (int i = -1; i < 3; i++) {
            int at = i < 0 ? -1 : r.nextInt(16);
            same("shortest(15,3," + at + ")", x.shortest(15, 3, at), p.shortest(15, 3, at));
            same("ends(" + s + ",15,3," + at + ")", x.ends(s, 15, 3, at), p.ends(s, 15, 3, at));
        }
        for (int minute = 4; minute < 60; minute++) {
            same("turns(" + s + ",15," + minute + ",1)", x.turns(s, 15, minute, 1), p.turns(s, 15, minute, 1));
        }
        text(r, x, p);
        text(r, x, p);
    }

    private static void type(String text, StoryNest x, PlainNest p) {
        for (char c : text.toCharArray()) {
            same("say(" + (int) c + ")", x.say(c), p.say(c));
        }
    }

    private static void wipe(StoryNest x, PlainNest p) {
        same("wipe()", x.wipe(), p.wipe());
    }

    private static void change(Random r, StoryNest x, PlainNest p, int size, int minutes) {
        switch (r.nextInt(8)) {
            case 0:
            case 1:
                writeStory(r, x, p, size, minutes);
                break;
            case 2: {
                int s = any(r, 0, 3);
                int t = any(r, 0, 3);
                same("teller(" + s + "," + t + ")", x.teller(s, t), p.teller(s, t));
                break;
            }
            case 3: {
                int t = any(r, 0, 3);
                int v = any(r, 0, 15);
                same("knows(" + t + "," + v + ")", x.knows(t, v), p.knows(t, v));
                break;
            }
            case 4: {
                int s = any(r, 0, 3);
                int part = any(r, 0, 3);
                int o = any(r, 0, 3);
                same("wait(" + s + "," + part + "," + o + ")", x.wait(s, part, o), p.waitFor(s, part, o));
                break;
            }
            case 5: {
                int w = any(r, 0, 6);
                same("drop(" + w + ")", x.drop(w), p.drop(w));
                break;
            }
            case 6: {
                int which = any(r, 0, 1);
                int v = any(r, 0, which == 0 ? 2 : 9);
                same("set(" + which + "," + v + ")", x.set(which, v), p.set(which, v));
                break;
            }
            default: {
                int n = any(r, 0, 1);
                if (r.nextBoolean()) {
                    same("image(" + n + ")", x.image(n), p.image(n));
                } else {
                    same("restore(" + n + ")", x.restore(n), p.restore(n));
                }
            }
        }
    }

    private static void writeStory(Random r, StoryNest x, PlainNest p, int size, int minutes) {
        if (r.nextInt(5) != 0) {
            wipe(x, p);
        }
        int s = r.nextInt(4);
        int room = Math.min(4, size + 3 - p.allParts() + p.parts(s));
        int parts = 1 + r.nextInt(Math.max(1, room));
        StringBuilder text = new StringBuilder();
        for (int i = 0; i < parts; i++) {
            if (i > 0 && r.nextInt(4) != 0) {
                text.append(':');
            }
            text.append((char) ('1' + r.nextInt(minutes)));
        }
        if (r.nextInt(12) == 0) {
            text.insert(r.nextInt(text.length() + 1), r.nextBoolean() ? ":" : "5");
        }
        type(text.toString(), x, p);
        same("fault(0)", x.fault(0), p.fault(0));
        int at = any(r, s, s);
        same("story(" + at + ")", x.story(at), p.story(at));
    }

    private static void text(Random r, StoryNest x, PlainNest p) {
        if (r.nextInt(6) != 0) {
            wipe(x, p);
        }
        String e = goodEvening(r, p);
        if (r.nextBoolean()) {
            type(e, x, p);
            if (r.nextInt(3) == 0) {
                type("" + (char) ('a' + r.nextInt(4)), x, p);
            }
            askEvening(r, x, p);
        } else {
            StringBuilder wall = new StringBuilder();
            for (int i = 0; i < e.length(); i++) {
                int s = e.charAt(i) - 'a';
                wall.append((char) ('0' + p.minutes(s, p.told(e.substring(0, i), s))));
            }
            type(wall.toString(), x, p);
            askWall(r, x, p);
        }
        if (r.nextInt(8) == 0) {
            int sign = any(r, 33, 126);
            same("say(" + sign + ")", x.say(sign), p.say(sign));
            if (r.nextInt(8) == 0) {
                type("abcdabcdabcdabcdabcdabcdabcdabcd".substring(r.nextInt(16)), x, p);
            }
        }
    }

    private static String goodEvening(Random r, PlainNest p) {
        StringBuilder e = new StringBuilder();
        int length = r.nextInt(p.allParts() + 1);
        for (int tries = 0; tries < 40 && e.length() < length; tries++) {
            int s = r.nextInt(4);
            if (p.whyNot(e.toString(), s, 15) == 0) {
                e.append((char) ('a' + s));
            }
        }
        return e.toString();
    }

    private static void askEvening(Random r, StoryNest x, PlainNest p) {
        for (int w = 0; w < 3; w++) {
            int what = any(r, w, w);
            same("judge(" + what + ")", x.judge(what), p.judge(what));
            same("evening(" + what + ")", x.evening(what), p.evening(what));
            int t = any(r, 0, 3);
            int lw = any(r, 0, 1);
            same("left(" + t + "," + lw + ")", x.left(t, lw), p.left(t, lw));
        }
    }

    private static void askWall(Random r, StoryNest x, PlainNest p) {
        same("heard()", x.heard(), p.heard());
        for (int i = 0; i < 3; i++) {
            int at = any(r, -1, 8);
            same("first(" + at + ")", x.first(at), p.first(at));
            same("who(" + at + ")", x.who(at), p.who(at));
        }
    }

    private static void ask(Random r, StoryNest x, PlainNest p) {
        int set = any(r, 1, 15);
        int deep = any(r, 1, 4);
        int story = any(r, 0, 3);
        int i = any(r, -1, 9);
        switch (r.nextInt(9)) {
            case 0:
                same("ways(" + set + "," + deep + ")", x.ways(set, deep), p.ways(set, deep));
                break;
            case 1:
                same("shortest(" + set + "," + deep + "," + i + ")", x.shortest(set, deep, i), p.shortest(set, deep, i));
                break;
            case 2:
                same("ends(" + story + "," + set + "," + deep + "," + i + ")",
                    x.ends(story, set, deep, i), p.ends(story, set, deep, i));
                break;
            case 3: {
                int minute = any(r, 0, 30);
                int what = any(r, 0, 1);
                same("turns(" + story + "," + set + "," + minute + "," + what + ")",
                    x.turns(story, set, minute, what), p.turns(story, set, minute, what));
                break;
            }
            case 4:
                same("rings()", x.rings(), p.rings());
                break;
            case 5:
                same("dropped(" + set + ")", x.dropped(set), p.dropped(set));
                break;
            case 6: {
                int what = any(r, 0, 13);
                same("about(" + story + "," + what + ")", x.about(story, what), p.about(story, what));
                break;
            }
            case 7: {
                int what = any(r, 0, 37);
                same("told(" + what + ")", x.told(what), p.toldOf(what));
                break;
            }
            default: {
                int how = any(r, 0, 2);
                same("fault(" + how + ")", x.fault(how), p.fault(how));
            }
        }
    }
}
