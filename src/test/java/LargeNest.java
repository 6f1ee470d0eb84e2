import java.util.ArrayList;
import java.util.HashMap;
import java.util.List;
import java.util.Map;
import java.util.TreeSet;

/**
 * PlainNest for stories of all parts: there are too many evenings to write them all out, so evenings that have come
 * equally far (parts told, open ones in their order, the last teller) are looked at once. What may come next is still
 * asked of PlainNest's texts.
 */
final class LargeNest {
    private static final int ENDLESS = 1000000;

    private final PlainNest plain;
    private final int set;
    private final int deep;
    private final String wall;
    private final Map<String, Long> counts = new HashMap<>();
    private final Map<String, Integer> leasts = new HashMap<>();
    private final Map<String, TreeSet<Integer>> ends = new HashMap<>();
    private final Map<String, int[]> tellers = new HashMap<>();
    private final Map<String, List<Integer>> nexts = new HashMap<>();

    private LargeNest(PlainNest plain, int set, int deep, String wall) {
        this.plain = plain;
        this.set = set;
        this.deep = deep;
        this.wall = wall;
    }

    static LargeNest out(PlainNest plain, int set, int deep) {
        return new LargeNest(plain, set, deep, null);
    }

    static LargeNest heard(PlainNest plain) {
        return new LargeNest(plain, 15, 4, plain.pad);
    }

    private String key(String evening) {
        StringBuilder key = new StringBuilder();
        for (int s = 0; s < 4; s++) {
            key.append(plain.told(evening, s));
        }
        return key.append(plain.openOnes(evening)).toString();
    }

    private boolean isWhole(String evening) {
        if (wall != null) {
            return evening.length() == wall.length();
        }
        for (int s = 0; s < 4; s++) {
            if ((set >> s & 1) == 1 && !plain.isOut(evening, s)) {
                return false;
            }
        }
        return true;
    }

    private List<Integer> next(String evening) {
        return nexts.computeIfAbsent(key(evening), k -> {
            List<Integer> found = new ArrayList<>();
            List<Integer> open = plain.openOnes(evening);
            for (int s = 0; s < 4 && !isWhole(evening); s++) {
                boolean isDeeper = open.size() + (open.contains(s) ? 0 : 1) > deep;
                if ((set >> s & 1) == 1 && !isDeeper && plain.whyNot(evening, s, set) == 0 && sounds(evening, s)) {
                    found.add(s);
                }
            }
            return found;
        });
    }

    private boolean sounds(String evening, int story) {
        return wall == null || plain.minutes(story, plain.told(evening, story)) == wall.charAt(evening.length()) - '0';
    }

    private static String with(String evening, int story) {
        return evening + (char) ('a' + story);
    }

    long count() {
        return count("");
    }

    private long count(String evening) {
        String key = key(evening);
        Long known = counts.get(key);
        if (known != null) {
            return known;
        }
        long sum = isWhole(evening) ? 1 : 0;
        for (int s : next(evening)) {
            sum += count(with(evening, s));
        }
        counts.put(key, sum);
        return sum;
    }

    /** The first by letters of those that go on from "" and are whole at last; null if there is none. */
    String firstHeard() {
        String evening = "";
        while (count(evening) > 0 && !isWhole(evening)) {
            for (int s : next(evening)) {
                if (count(with(evening, s)) > 0) {
                    evening = with(evening, s);
                    break;
                }
            }
        }
        return count(evening) > 0 ? evening : null;
    }

    /** For each place of the wall the stories that can have told it: all of them backward from the end. */
    int[] who() {
        return who("");
    }

    private int[] who(String evening) {
        String key = key(evening);
        int[] known = tellers.get(key);
        if (known != null) {
            return known;
        }
        int[] bits = new int[wall.length()];
        for (int s : next(evening)) {
            String then = with(evening, s);
            if (count(then) > 0) {
                bits[evening.length()] |= 1 << s;
                int[] rest = who(then);
                for (int place = evening.length() + 1; place < wall.length(); place++) {
                    bits[place] |= rest[place];
                }
            }
        }
        tellers.put(key, bits);
        return bits;
    }

    /** The least minutes from an evening on, BREATH too. */
    private int least(String evening) {
        if (isWhole(evening)) {
            return 0;
        }
        int last = evening.isEmpty() ? -1 : plain.now.teller[evening.charAt(evening.length() - 1) - 'a'];
        String key = key(evening) + last;
        Integer known = leasts.get(key);
        if (known != null) {
            return known;
        }
        int best = ENDLESS;
        for (int s : next(evening)) {
            best = Math.min(best, step(evening, s) + least(with(evening, s)));
        }
        leasts.put(key, best);
        return best;
    }

    private int step(String evening, int story) {
        return plain.minutesOf(with(evening, story), true) - plain.minutesOf(evening, true);
    }

    int leastMinutes() {
        return least("") >= ENDLESS ? PlainNest.NONE : least("");
    }

    String firstShortest() {
        if (least("") >= ENDLESS) {
            return "";
        }
        String evening = "";
        while (!isWhole(evening)) {
            int due = least(evening);
            for (int s : next(evening)) {
                if (step(evening, s) + least(with(evening, s)) == due) {
                    evening = with(evening, s);
                    break;
                }
            }
        }
        return evening;
    }

    /** The minutes at which a story is told out, of the evenings that are whole at last. */
    TreeSet<Integer> ends(int story) {
        ends.clear();
        return ends("", story);
    }

    private TreeSet<Integer> ends(String evening, int story) {
        String key = key(evening);
        TreeSet<Integer> known = ends.get(key);
        if (known != null) {
            return known;
        }
        TreeSet<Integer> found = new TreeSet<>();
        if (plain.isOut(evening, story)) {
            if (count(evening) > 0) {
                found.add(plain.minutesOf(evening, false));
            }
        } else {
            for (int s : next(evening)) {
                found.addAll(ends(with(evening, s), story));
            }
        }
        ends.put(key, found);
        return found;
    }
}
