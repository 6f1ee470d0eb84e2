import java.util.ArrayList;
import java.util.HashMap;
import java.util.List;
import java.util.Map;
import java.util.TreeSet;

/**
 * The document once more, as slow and as near to its words as can be: an evening is a text, each question is
 * answered by writing out all evenings and looking at every one. The fuzz compares StoryNest with it.
 */
final class PlainNest {
    static final int UNKNOWN = -1, OUTSIDE = -2, STATE = -3, FULL = -4, NO = -5, NONE = -6;

    static final class Kept {
        String[] texts = {"1", "1", "1", "1"};
        int[] teller = {0, 1, 2, 3};
        int[] knows = {1, 2, 4, 8};
        List<int[]> waits = new ArrayList<>();
        int law = 0;
        int breath = 0;

        Kept copy() {
            Kept k = new Kept();
            k.texts = texts.clone();
            k.teller = teller.clone();
            k.knows = knows.clone();
            k.waits = new ArrayList<>(waits);
            k.law = law;
            k.breath = breath;
            return k;
        }
    }

    Kept now = new Kept();
    Kept[] images = new Kept[2];
    String pad = "";

    // ---- the stories as texts

    int parts(int story) {
        return now.texts[story].replace(":", "").length();
    }

    int minutes(int story, int part) {
        return now.texts[story].replace(":", "").charAt(part) - '0';
    }

    boolean gateBehind(int story, int part) {
        int seen = -1;
        String text = now.texts[story];
        for (int i = 0; i < text.length(); i++) {
            if (text.charAt(i) == ':') {
                if (seen == part) {
                    return true;
                }
            } else {
                seen++;
            }
        }
        return false;
    }

    int allParts() {
        return parts(0) + parts(1) + parts(2) + parts(3);
    }

    // ---- texts and their faults

    static boolean isBegunStory(String text) {
        return text.matches("([1-9](:?[1-9]){0,2}:?)?|[1-9](:?[1-9]){3}");
    }

    static boolean isWhole(String text, int how) {
        return text.matches(how == 0 ? "[1-9](:?[1-9]){0,3}" : how == 1 ? "[a-d]{0,16}" : "[1-9]{0,16}");
    }

    int faultOf(int how) {
        for (int n = 1; n <= pad.length(); n++) {
            String begin = pad.substring(0, n);
            if (how == 0 ? !isBegunStory(begin) : !isWhole(begin, how)) {
                return n - 1;
            }
        }
        return isWhole(pad, how) ? NONE : pad.length();
    }

    // ---- evenings

    int told(String evening, int story) {
        int n = 0;
        for (char c : evening.toCharArray()) {
            n += c == 'a' + story ? 1 : 0;
        }
        return n;
    }

    boolean isOut(String evening, int story) {
        return told(evening, story) == parts(story);
    }

    boolean isOpen(String evening, int story) {
        return told(evening, story) > 0 && told(evening, story) < parts(story);
    }

    /** The open stories, those that began first ahead. */
    List<Integer> openOnes(String evening) {
        List<Integer> open = new ArrayList<>();
        for (char c : evening.toCharArray()) {
            int story = c - 'a';
            if (isOpen(evening, story) && !open.contains(story)) {
                open.add(story);
            }
        }
        return open;
    }

    boolean atGate(String evening, int story) {
        return gateBehind(story, told(evening, story) - 1);
    }

    int whyNot(String evening, int story, int counted) {
        List<Integer> open = openOnes(evening);
        if (isOut(evening, story)) {
            return 1;
        }
        if (isOpen(evening, story)) {
            if (now.law == 0 && open.get(open.size() - 1) != story) {
                return 2;
            }
            if (now.law == 1 && open.get(0) != story) {
                return 2;
            }
        } else if (!open.isEmpty()) {
            boolean gate = false;
            if (now.law == 0) {
                gate = atGate(evening, open.get(open.size() - 1));
            } else if (now.law == 1) {
                gate = atGate(evening, open.get(0));
            } else {
                for (int o : open) {
                    gate |= atGate(evening, o);
                }
            }
            if (!gate) {
                return 3;
            }
            for (int o : open) {
                if (now.teller[o] == now.teller[story]) {
                    return 4;
                }
            }
        }
        for (int[] w : now.waits) {
            boolean here = w[0] == story && w[1] == told(evening, story);
            if (here && (counted >> w[2] & 1) == 1 && !isOut(evening, w[2])) {
                return 5;
            }
        }
        return 0;
    }

    /** The first place that can not be and why, or null. */
    int[] judged(String evening) {
        for (int i = 0; i < evening.length(); i++) {
            int why = whyNot(evening.substring(0, i), evening.charAt(i) - 'a', 15);
            if (why != 0) {
                return new int[] {i, why};
            }
        }
        return null;
    }

    int deep(String evening) {
        int deep = 0;
        for (int i = 0; i < evening.length(); i++) {
            List<Integer> open = openOnes(evening.substring(0, i));
            int story = evening.charAt(i) - 'a';
            deep = Math.max(deep, open.size() + (open.contains(story) ? 0 : 1));
        }
        return deep;
    }

    int minutesOf(String evening, boolean withBreath) {
        int sum = 0;
        for (int i = 0; i < evening.length(); i++) {
            int story = evening.charAt(i) - 'a';
            sum += minutes(story, told(evening.substring(0, i), story));
            if (withBreath && i > 0 && now.teller[story] != now.teller[evening.charAt(i - 1) - 'a']) {
                sum += now.breath;
            }
        }
        return sum;
    }

    int openBits(String evening) {
        int bits = 0;
        for (int o : openOnes(evening)) {
            bits |= 1 << o;
        }
        return bits;
    }

    // ---- told out

    /** All evenings of a set, by letters. */
    List<String> evenings(int set, int deep) {
        List<String> all = new ArrayList<>();
        extend("", set, deep, all);
        return all;
    }

    private void extend(String evening, int set, int deep, List<String> all) {
        boolean whole = true;
        for (int s = 0; s < 4; s++) {
            whole &= (set >> s & 1) == 0 || isOut(evening, s);
        }
        if (whole) {
            if (deep(evening) <= deep) {
                all.add(evening);
            }
            return;
        }
        for (int s = 0; s < 4; s++) {
            if ((set >> s & 1) == 1 && whyNot(evening, s, set) == 0) {
                extend(evening + (char) ('a' + s), set, deep, all);
            }
        }
    }

    boolean side0Wins(String evening, int story, int set, int minute, Map<String, Boolean> known) {
        if (isOut(evening, story)) {
            return minutesOf(evening, false) == minute;
        }
        String key = told(evening, 0) + "," + told(evening, 1) + "," + told(evening, 2) + "," + told(evening, 3)
            + openOnes(evening);
        Boolean before = known.get(key);
        if (before != null) {
            return before;
        }
        boolean any = false;
        boolean every = true;
        for (int s = 0; s < 4; s++) {
            if ((set >> s & 1) == 1 && whyNot(evening, s, set) == 0) {
                boolean win = side0Wins(evening + (char) ('a' + s), story, set, minute, known);
                any |= win;
                every &= win;
            }
        }
        boolean wins = evening.length() % 2 == 0 ? any : any && every;
        known.put(key, wins);
        return wins;
    }

    // ---- the calls

    int say(int sign) {
        if (sign < 33 || sign > 126) {
            return OUTSIDE;
        }
        if (pad.length() == 30) {
            return FULL;
        }
        pad += (char) sign;
        return pad.length();
    }

    int wipe() {
        int n = pad.length();
        pad = "";
        return n;
    }

    int fault(int how) {
        return how < 0 || how > 2 ? OUTSIDE : faultOf(how);
    }

    int story(int story) {
        if (story < 0 || story > 3) {
            return UNKNOWN;
        }
        if (faultOf(0) != NONE) {
            return NO;
        }
        now.texts[story] = pad;
        pad = "";
        now.waits.removeIf(w -> w[0] == story && w[1] >= parts(story));
        return parts(story);
    }

    int about(int story, int what) {
        if (story < 0 || story > 3) {
            return UNKNOWN;
        }
        int sum = 0;
        int gates = 0;
        for (int p = 0; p < parts(story); p++) {
            sum += minutes(story, p);
            gates |= gateBehind(story, p) ? 1 << p : 0;
        }
        if (what >= 10 && what <= 13) {
            return what - 10 < parts(story) ? minutes(story, what - 10) : NONE;
        }
        return what == 0 ? parts(story) : what == 1 ? sum : what == 2 ? gates : OUTSIDE;
    }

    int teller(int story, int teller) {
        if (story < 0 || story > 3 || teller < 0 || teller > 3) {
            return UNKNOWN;
        }
        int before = now.teller[story];
        now.teller[story] = teller;
        return before;
    }

    int knows(int teller, int stories) {
        if (teller < 0 || teller > 3) {
            return UNKNOWN;
        }
        if (stories < 0 || stories > 15) {
            return OUTSIDE;
        }
        int before = now.knows[teller];
        now.knows[teller] = stories;
        return before;
    }

    int waitFor(int story, int part, int other) {
        if (story < 0 || story > 3 || part < 0 || part >= parts(story) || other < 0 || other > 3 || other == story) {
            return UNKNOWN;
        }
        for (int[] w : now.waits) {
            if (w[0] == story && w[1] == part && w[2] == other) {
                return NO;
            }
        }
        if (now.waits.size() == 6) {
            return FULL;
        }
        now.waits.add(new int[] {story, part, other});
        return now.waits.size() - 1;
    }

    int drop(int wait) {
        if (wait < 0 || wait >= now.waits.size()) {
            return UNKNOWN;
        }
        now.waits.remove(wait);
        return now.waits.size();
    }

    int set(int which, int v) {
        if (which == 0 && v >= 0 && v <= 2) {
            int before = now.law;
            now.law = v;
            return before;
        }
        if (which == 1 && v >= 0 && v <= 9) {
            int before = now.breath;
            now.breath = v;
            return before;
        }
        return OUTSIDE;
    }

    int judge(int what) {
        if (what != 0 && what != 1) {
            return OUTSIDE;
        }
        if (faultOf(1) != NONE) {
            return NO;
        }
        int[] bad = judged(pad);
        return bad == null ? NONE : bad[what];
    }

    int evening(int what) {
        if (what < 0 || what > 2) {
            return OUTSIDE;
        }
        if (faultOf(1) != NONE) {
            return NO;
        }
        if (judged(pad) != null) {
            return STATE;
        }
        return what == 0 ? openBits(pad) : what == 1 ? deep(pad) : minutesOf(pad, true);
    }

    static boolean badOut(int set, int deep) {
        return set < 1 || set > 15 || deep < 1 || deep > 4;
    }

    long ways(int set, int deep) {
        return badOut(set, deep) ? OUTSIDE : evenings(set, deep).size();
    }

    int shortest(int set, int deep, int i) {
        if (badOut(set, deep) || i < -1) {
            return OUTSIDE;
        }
        String best = null;
        for (String e : evenings(set, deep)) {
            if (best == null || minutesOf(e, true) < minutesOf(best, true)) {
                best = e;
            }
        }
        if (best == null) {
            return NONE;
        }
        return i == -1 ? minutesOf(best, true) : i < best.length() ? best.charAt(i) : NONE;
    }

    int ends(int story, int set, int deep, int i) {
        if (story < 0 || story > 3 || (set >> story & 1) == 0) {
            return UNKNOWN;
        }
        if (badOut(set, deep) || i < -1) {
            return OUTSIDE;
        }
        TreeSet<Integer> ends = new TreeSet<>();
        for (String e : evenings(set, deep)) {
            ends.add(minutesOf(e.substring(0, e.lastIndexOf('a' + story) + 1), false));
        }
        return i == -1 ? ends.size() : i < ends.size() ? new ArrayList<>(ends).get(i) : NONE;
    }

    int turns(int story, int set, int minute, int what) {
        if (story < 0 || story > 3 || (set >> story & 1) == 0) {
            return UNKNOWN;
        }
        if (set < 1 || set > 15 || minute < 0 || minute > 144 || what < 0 || what > 1) {
            return OUTSIDE;
        }
        Map<String, Boolean> known = new HashMap<>();
        for (int s = 0; s < 4; s++) {
            boolean comes = (set >> s & 1) == 1 && whyNot("", s, set) == 0;
            if (comes && side0Wins("" + (char) ('a' + s), story, set, minute, known)) {
                return what == 0 ? 1 : s;
            }
        }
        return what == 0 ? 0 : NONE;
    }

    boolean hasEvening(int set) {
        return !evenings(set, 4).isEmpty();
    }

    int rings() {
        int bits = 0;
        for (int set = 1; set <= 15; set++) {
            bits |= hasEvening(set) ? 0 : 1 << (set - 1);
        }
        return bits;
    }

    int dropped(int set) {
        if (set < 1 || set > 15) {
            return OUTSIDE;
        }
        List<int[]> all = now.waits;
        for (int few = 0; few <= all.size(); few++) {
            for (int bits = 0; bits < 1 << all.size(); bits++) {
                if (Integer.bitCount(bits) == few) {
                    now.waits = new ArrayList<>();
                    for (int w = 0; w < all.size(); w++) {
                        if ((bits >> w & 1) == 0) {
                            now.waits.add(all.get(w));
                        }
                    }
                    boolean has = hasEvening(set);
                    now.waits = all;
                    if (has) {
                        return bits;
                    }
                }
            }
        }
        return -99;
    }

    // ---- heard, left

    /** All evenings that sound like the pad, by letters. */
    List<String> sounding() {
        List<String> all = new ArrayList<>();
        sound("", all);
        return all;
    }

    private void sound(String evening, List<String> all) {
        if (evening.length() == pad.length()) {
            all.add(evening);
            return;
        }
        for (int s = 0; s < 4; s++) {
            if (whyNot(evening, s, 15) == 0
                && minutes(s, told(evening, s)) == pad.charAt(evening.length()) - '0') {
                sound(evening + (char) ('a' + s), all);
            }
        }
    }

    long heard() {
        return faultOf(2) != NONE ? NO : sounding().size();
    }

    int first(int i) {
        if (faultOf(2) != NONE) {
            return NO;
        }
        List<String> all = sounding();
        return all.isEmpty() || i < 0 || i >= pad.length() ? NONE : all.get(0).charAt(i);
    }

    int who(int place) {
        if (faultOf(2) != NONE) {
            return NO;
        }
        if (place < 0 || place >= pad.length()) {
            return NONE;
        }
        int bits = 0;
        for (String e : sounding()) {
            bits |= 1 << (e.charAt(place) - 'a');
        }
        return bits;
    }

    int left(int teller, int what) {
        if (teller < 0 || teller > 3) {
            return UNKNOWN;
        }
        if (what < 0 || what > 1) {
            return OUTSIDE;
        }
        if (faultOf(1) != NONE) {
            return NO;
        }
        if (judged(pad) != null) {
            return STATE;
        }
        int his = 0;
        boolean[] busy = new boolean[4];
        for (int o : openOnes(pad)) {
            busy[now.teller[o]] = true;
            his |= now.teller[o] == teller ? 1 << o : 0;
        }
        if (what == 0) {
            return his;
        }
        int closers = 0;
        for (int t = 0; t < 4; t++) {
            closers |= t != teller && !busy[t] && (now.knows[t] & his) == his ? 1 << t : 0;
        }
        return closers;
    }

    int image(int n) {
        if (n != 0 && n != 1) {
            return OUTSIDE;
        }
        images[n] = now.copy();
        return 1;
    }

    int restore(int n) {
        if (n != 0 && n != 1) {
            return OUTSIDE;
        }
        if (images[n] == null) {
            return STATE;
        }
        now = images[n].copy();
        return 1;
    }

    int toldOf(int what) {
        if (what >= 10 && what <= 13) {
            return now.teller[what - 10];
        }
        if (what >= 20 && what <= 23) {
            return now.knows[what - 20];
        }
        if (what >= 30 && what <= 35) {
            if (what - 30 >= now.waits.size()) {
                return NONE;
            }
            int[] w = now.waits.get(what - 30);
            return 100 * w[0] + 10 * w[1] + w[2];
        }
        int[] four = {pad.length(), now.waits.size(), now.law, now.breath};
        return what >= 0 && what <= 3 ? four[what] : OUTSIDE;
    }
}
