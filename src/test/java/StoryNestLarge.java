import java.util.ArrayList;
import java.util.List;
import java.util.Random;
import java.util.TreeSet;

/** Stories of all parts, by each law: every answer about their evenings is the one of LargeNest. */
public final class StoryNestLarge {
    private static final int MOST_CALLS = 512;

    private static int wrong = 0;
    private static long asked = 0;

    private StoryNest x;
    private PlainNest p;
    private int calls;
    private final List<Runnable> settings = new ArrayList<>();

    private void same(String call, long got, long want) {
        asked++;
        calls++;
        if (got != want) {
            wrong++;
            System.out.println(call + " answered " + got + ", due is " + want);
        }
    }

    public static void main(String[] args) {
        int runs = args.length > 0 ? Integer.parseInt(args[0]) : 12;
        for (int seed = 1; seed <= runs && wrong == 0; seed++) {
            for (int law = 0; law < 3; law++) {
                new StoryNestLarge().run(new Random(seed), law, seed <= 1);
            }
        }
        System.out.println("large: " + asked + " answers, " + wrong + " not as due");
        if (wrong != 0) {
            System.exit(1);
        }
    }

    private void type(String text) {
        same("wipe", x.wipe(), p.wipe());
        for (char c : text.toCharArray()) {
            same("say", x.say(c), p.say(c));
        }
    }

    /** A new object, as the settings make it: no object is used for more than 512 calls. */
    private void begin() {
        x = new StoryNest();
        p = new PlainNest();
        calls = 0;
        for (Runnable s : settings) {
            s.run();
        }
    }

    private void room(int callsToCome) {
        if (calls + callsToCome > MOST_CALLS) {
            begin();
        }
    }

    private void run(Random r, int law, boolean plainly) {
        for (int s = 0; s < 4; s++) {
            int story = s;
            String text = storyText(r, plainly);
            settings.add(() -> type(text));
            settings.add(() -> same("story", x.story(story), p.story(story)));
            int teller = plainly || r.nextInt(3) != 0 ? s : r.nextInt(4);
            settings.add(() -> same("teller", x.teller(story, teller), p.teller(story, teller)));
        }
        // Each waits for a later one, so that there is no ring, but evenings that come to a dead end.
        for (int w = plainly ? 0 : 2 + r.nextInt(5); w > 0; w--) {
            int story = r.nextInt(3);
            int part = r.nextInt(4);
            int other = story + 1 + r.nextInt(3 - story);
            settings.add(() -> same("wait", x.wait(story, part, other), p.waitFor(story, part, other)));
        }
        int breath = r.nextInt(10);
        settings.add(() -> same("set law", x.set(0, law), p.set(0, law)));
        settings.add(() -> same("set breath", x.set(1, breath), p.set(1, breath)));
        begin();
        for (int deep = 1; deep <= 4; deep++) {
            askOut(15, deep);
            askOut(1 + r.nextInt(15), deep);
        }
        askTurns(r);
        for (int n = 0; n < 4; n++) {
            askWall(r);
        }
    }

    private static String storyText(Random r, boolean plainly) {
        StringBuilder text = new StringBuilder();
        for (int part = 0; part < 4; part++) {
            text.append(part > 0 && (plainly || r.nextInt(6) != 0) ? ":" : "");
            text.append((char) ('1' + (plainly ? 8 : r.nextInt(3))));
        }
        return text.toString();
    }

    private void askOut(int set, int deep) {
        room(30);
        LargeNest large = LargeNest.out(p, set, deep);
        String of = "(" + set + "," + deep + ") ";
        same("ways" + of, x.ways(set, deep), large.count());
        same("shortest" + of, x.shortest(set, deep, -1), large.leastMinutes());
        String first = large.firstShortest();
        for (int i = 0; i <= 16; i++) {
            int want = i < first.length() ? first.charAt(i) : StoryNest.NONE;
            same("shortest" + of + i, x.shortest(set, deep, i), want);
        }
        for (int s = 0; s < 4; s++) {
            if ((set >> s & 1) == 1) {
                askEnds(large, s, set, deep);
            }
        }
    }

    private void askEnds(LargeNest large, int story, int set, int deep) {
        TreeSet<Integer> ends = large.ends(story);
        room(ends.size() + 2);
        String of = "ends(" + story + "," + set + "," + deep + ") ";
        same(of, x.ends(story, set, deep, -1), ends.size());
        int i = 0;
        for (int minute : ends) {
            same(of + i, x.ends(story, set, deep, i), minute);
            i++;
        }
        same(of + i, x.ends(story, set, deep, i), StoryNest.NONE);
    }

    private void askTurns(Random r) {
        int story = r.nextInt(4);
        room(145);
        for (int minute = 0; minute <= 144; minute++) {
            same("turns " + minute, x.turns(story, 15, minute, 1), p.turns(story, 15, minute, 1));
        }
    }

    private void askWall(Random r) {
        room(60);
        StringBuilder wall = new StringBuilder();
        String evening = "";
        int length = 8 + r.nextInt(9);
        for (int tries = 0; tries < 100 && evening.length() < length; tries++) {
            int s = r.nextInt(4);
            if (p.whyNot(evening, s, 15) == 0) {
                wall.append(p.minutes(s, p.told(evening, s)));
                evening += (char) ('a' + s);
            }
        }
        type(wall.toString());
        LargeNest large = LargeNest.heard(p);
        same("heard " + wall, x.heard(), large.count());
        String first = large.firstHeard();
        int[] who = large.who();
        for (int i = 0; i < wall.length(); i++) {
            same("first " + i + " of " + wall, x.first(i), first.charAt(i));
            same("who " + i + " of " + wall, x.who(i), who[i]);
        }
    }
}
