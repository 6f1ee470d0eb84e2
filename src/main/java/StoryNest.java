/**
 * Four stories in parts, told in one another: evenings judged, all evenings by which a set of stories is told
 * out, waits and their rings, what was heard through a wall, and tellers that leave.
 */
public final class StoryNest {
    public static final int UNKNOWN = -1, OUTSIDE = -2, STATE = -3, FULL = -4, NO = -5, NONE = -6;

    private static final int STORIES = 4;
    private static final int TELLERS = 4;
    private static final int PARTS = 4;
    private static final int ALL = 15;
    private static final int WAITS = 6;
    private static final int SIGNS = 30;
    private static final int TEXT_SIGNS = 16;
    private static final int IMAGES = 2;
    private static final int MINUTES = 144;
    private static final int AS_STORY = 0, AS_EVENING = 1, AS_WALL = 2;
    private static final int INNER = 0, OUTER = 1, ANY = 2;
    private static final int BREATH = 9;

    private final Pad pad;
    private final Book book;
    private final Book[] images;
    private int kept;
    private final Evening judged;
    private final Nights nights;
    private final Out out;
    private final Game game;
    private final Wall wall;
    private final Rings ring;

    public StoryNest() {
        pad = new Pad();
        book = new Book();
        images = new Book[IMAGES];
        for (int n = 0; n < IMAGES; n++) {
            images[n] = new Book();
        }
        kept = 0;
        judged = new Evening(book, pad);
        nights = new Nights(book);
        out = new Out(book, nights);
        game = new Game(nights);
        wall = new Wall(book, nights, pad);
        ring = new Rings(book);
    }

    // ---- 1 stories

    public int say(int sign) {
        if (sign < 33 || sign > 126) {
            return OUTSIDE;
        }
        return pad.isFull() ? FULL : pad.add(sign);
    }

    public int wipe() {
        return pad.clear();
    }

    public int fault(int how) {
        return isIn(how, AS_STORY, AS_WALL) ? pad.faultAs(how) : OUTSIDE;
    }

    public int story(int story) {
        if (!isStory(story)) {
            return UNKNOWN;
        }
        if (pad.faultAs(AS_STORY) != NONE) {
            return NO;
        }
        book.write(story, pad);
        pad.clear();
        nights.forget();
        return book.parts[story];
    }

    public int about(int story, int what) {
        if (!isStory(story)) {
            return UNKNOWN;
        }
        if (isIn(what, 10, 10 + PARTS - 1)) {
            int part = what - 10;
            return part < book.parts[story] ? book.minutesAt(story, part) : NONE;
        }
        switch (what) {
            case 0:
                return book.parts[story];
            case 1:
                return book.minutesOf(story, book.parts[story]);
            case 2:
                return book.gates[story];
            default:
                return OUTSIDE;
        }
    }

    public int teller(int story, int teller) {
        if (!isStory(story) || !isTeller(teller)) {
            return UNKNOWN;
        }
        int before = book.tellers[story];
        book.tellers[story] = teller;
        nights.forget();
        return before;
    }

    public int knows(int teller, int stories) {
        if (!isTeller(teller)) {
            return UNKNOWN;
        }
        if (!isIn(stories, 0, ALL)) {
            return OUTSIDE;
        }
        int before = book.known[teller];
        book.known[teller] = stories;
        return before;
    }

    public int wait(int story, int part, int other) {
        if (!isStory(story) || !isStory(other) || story == other) {
            return UNKNOWN;
        }
        if (!isIn(part, 0, book.parts[story] - 1)) {
            return UNKNOWN;
        }
        if (book.hasWait(story, part, other)) {
            return NO;
        }
        if (book.waitCount >= WAITS) {
            return FULL;
        }
        nights.forget();
        return book.addWait(story, part, other);
    }

    public int drop(int wait) {
        if (!isIn(wait, 0, book.waitCount - 1)) {
            return UNKNOWN;
        }
        nights.forget();
        return book.removeWait(wait);
    }

    public int set(int which, int v) {
        if (which == 0 && isIn(v, INNER, ANY)) {
            int before = book.law;
            book.law = v;
            nights.forget();
            return before;
        }
        if (which == 1 && isIn(v, 0, BREATH)) {
            int before = book.breath;
            book.breath = v;
            return before;
        }
        return OUTSIDE;
    }

    // ---- 2 evenings

    public int judge(int what) {
        if (!isIn(what, 0, 1)) {
            return OUTSIDE;
        }
        if (pad.faultAs(AS_EVENING) != NONE) {
            return NO;
        }
        if (judged.isGood()) {
            return NONE;
        }
        return what == 0 ? judged.place : judged.why;
    }

    public int evening(int what) {
        if (!isIn(what, 0, 2)) {
            return OUTSIDE;
        }
        int refused = refusedEvening();
        if (refused != 0) {
            return refused;
        }
        switch (what) {
            case 0:
                return judged.open;
            case 1:
                return judged.deep;
            default:
                return judged.minutes;
        }
    }

    // ---- 3 told out

    public long ways(int set, int deep) {
        if (!isSet(set) || !isDeep(deep)) {
            return OUTSIDE;
        }
        nights.gather(set, deep);
        return out.evenings();
    }

    public int shortest(int set, int deep, int i) {
        if (!isSet(set) || !isDeep(deep) || i < -1) {
            return OUTSIDE;
        }
        nights.gather(set, deep);
        return i == -1 ? out.leastMinutes() : out.leastLetter(i);
    }

    public int ends(int story, int set, int deep, int i) {
        if (!isStoryOf(story, set)) {
            return UNKNOWN;
        }
        if (!isSet(set) || !isDeep(deep) || i < -1) {
            return OUTSIDE;
        }
        nights.gather(set, deep);
        out.markEnds(story);
        return i == -1 ? out.marked() : out.markedMinute(i);
    }

    public int turns(int story, int set, int minute, int what) {
        if (!isStoryOf(story, set)) {
            return UNKNOWN;
        }
        if (!isSet(set) || !isIn(minute, 0, MINUTES) || !isIn(what, 0, 1)) {
            return OUTSIDE;
        }
        nights.gather(set, STORIES);
        game.play(story, minute);
        int begin = game.winningBegin();
        if (what == 1) {
            return begin;
        }
        return begin == NONE ? 0 : 1;
    }

    public int rings() {
        int found = 0;
        for (int set = 1; set <= ALL; set++) {
            if (ring.isRing(set, 0)) {
                found |= 1 << (set - 1);
            }
        }
        return found;
    }

    public int dropped(int set) {
        return isSet(set) ? ring.fewestToDrop(set) : OUTSIDE;
    }

    // ---- 4 heard, left

    public long heard() {
        if (pad.faultAs(AS_WALL) != NONE) {
            return NO;
        }
        nights.gather(ALL, STORIES);
        return wall.evenings();
    }

    public int first(int i) {
        if (pad.faultAs(AS_WALL) != NONE) {
            return NO;
        }
        nights.gather(ALL, STORIES);
        return wall.firstLetter(i);
    }

    public int who(int place) {
        if (pad.faultAs(AS_WALL) != NONE) {
            return NO;
        }
        if (!isIn(place, 0, pad.size - 1)) {
            return NONE;
        }
        nights.gather(ALL, STORIES);
        return wall.storiesAt(place);
    }

    public int left(int teller, int what) {
        if (!isTeller(teller)) {
            return UNKNOWN;
        }
        if (!isIn(what, 0, 1)) {
            return OUTSIDE;
        }
        int refused = refusedEvening();
        if (refused != 0) {
            return refused;
        }
        int open = book.toldBy(teller) & judged.open;
        return what == 0 ? open : closers(teller, open);
    }

    public int image(int n) {
        if (!isIn(n, 0, IMAGES - 1)) {
            return OUTSIDE;
        }
        images[n].copy(book);
        kept |= 1 << n;
        return 1;
    }

    public int restore(int n) {
        if (!isIn(n, 0, IMAGES - 1)) {
            return OUTSIDE;
        }
        if ((kept >> n & 1) == 0) {
            return STATE;
        }
        book.copy(images[n]);
        nights.forget();
        return 1;
    }

    public int told(int what) {
        if (isIn(what, 10, 10 + STORIES - 1)) {
            return book.tellers[what - 10];
        }
        if (isIn(what, 20, 20 + TELLERS - 1)) {
            return book.known[what - 20];
        }
        if (isIn(what, 30, 30 + WAITS - 1)) {
            int wait = what - 30;
            return wait < book.waitCount ? book.waits[wait] : NONE;
        }
        switch (what) {
            case 0:
                return pad.size;
            case 1:
                return book.waitCount;
            case 2:
                return book.law;
            case 3:
                return book.breath;
            default:
                return OUTSIDE;
        }
    }

    // A text with a fault is no evening at all, so whether it is good is only asked behind that.
    private int refusedEvening() {
        if (pad.faultAs(AS_EVENING) != NONE) {
            return NO;
        }
        return judged.isGood() ? 0 : STATE;
    }

    private int closers(int teller, int stories) {
        int found = 0;
        for (int other = 0; other < TELLERS; other++) {
            boolean knowsAll = (stories & ~book.known[other]) == 0;
            boolean isFree = (book.toldBy(other) & judged.open) == 0;
            if (other != teller && knowsAll && isFree) {
                found |= 1 << other;
            }
        }
        return found;
    }

    private static boolean isIn(int n, int least, int most) {
        return n >= least && n <= most;
    }

    private static boolean isStory(int n) {
        return isIn(n, 0, STORIES - 1);
    }

    private static boolean isTeller(int n) {
        return isIn(n, 0, TELLERS - 1);
    }

    private static boolean isSet(int n) {
        return isIn(n, 1, ALL);
    }

    private static boolean isDeep(int n) {
        return isIn(n, 1, STORIES);
    }

    private static boolean isStoryOf(int story, int set) {
        return isStory(story) && (set >> story & 1) != 0;
    }

    /** The signs that were said, and where they can not stand. */
    private static final class Pad {
        private final int[] signs = new int[SIGNS];
        private int size;

        boolean isFull() {
            return size >= SIGNS;
        }

        int add(int sign) {
            if (!isFull()) {
                signs[size] = sign;
                size++;
            }
            return size;
        }

        int clear() {
            int before = size;
            size = 0;
            return before;
        }

        int signAt(int place) {
            return isIn(place, 0, size - 1) ? signs[place] : 0;
        }

        int faultAs(int how) {
            if (how == AS_STORY) {
                return storyFault();
            }
            return how == AS_EVENING ? rowFault('a', 'd') : rowFault('1', '9');
        }

        private int storyFault() {
            int parts = 0;
            boolean partIsDue = true;
            for (int i = 0; i < size; i++) {
                int sign = signs[i];
                if (isIn(sign, '1', '9') && parts < PARTS) {
                    parts++;
                    partIsDue = false;
                } else if (sign == ':' && !partIsDue && parts < PARTS) {
                    partIsDue = true;
                } else {
                    return i;
                }
            }
            return partIsDue ? size : NONE;
        }

        private int rowFault(int least, int most) {
            for (int i = 0; i < size; i++) {
                if (i >= TEXT_SIGNS || !isIn(signs[i], least, most)) {
                    return i;
                }
            }
            return NONE;
        }
    }

    /** All that an image keeps: the stories, their tellers, what these know, the waits, the law, the breath. */
    private static final class Book {
        private final int[] parts = new int[STORIES];
        private final int[] minutes = new int[STORIES * PARTS];
        private final int[] gates = new int[STORIES];
        private final int[] tellers = new int[STORIES];
        private final int[] known = new int[TELLERS];
        /** Each as 100 times the story, 10 times the part, and the other story. */
        private final int[] waits = new int[WAITS];
        /** For each part the stories it waits for, so that a search need not go through the waits. */
        private final int[] needs = new int[STORIES * PARTS];
        private int waitCount;
        private int law;
        private int breath;

        Book() {
            for (int s = 0; s < STORIES; s++) {
                parts[s] = 1;
                minutes[s * PARTS] = 1;
                tellers[s] = s;
                known[s] = 1 << s;
            }
            law = INNER;
        }

        void copy(Book from) {
            for (int s = 0; s < STORIES; s++) {
                parts[s] = from.parts[s];
                gates[s] = from.gates[s];
                tellers[s] = from.tellers[s];
                known[s] = from.known[s];
            }
            for (int p = 0; p < STORIES * PARTS; p++) {
                minutes[p] = from.minutes[p];
                needs[p] = from.needs[p];
            }
            for (int w = 0; w < WAITS; w++) {
                waits[w] = from.waits[w];
            }
            waitCount = from.waitCount;
            law = from.law;
            breath = from.breath;
        }

        void write(int story, Pad pad) {
            int count = 0;
            int bits = 0;
            for (int i = 0; i < pad.size; i++) {
                int sign = pad.signAt(i);
                if (sign == ':') {
                    bits |= 1 << (count - 1);
                } else if (count < PARTS) {
                    minutes[story * PARTS + count] = sign - '0';
                    count++;
                }
            }
            parts[story] = count;
            gates[story] = bits;
            dropWaitsBeyond(story, count);
        }

        int minutesAt(int story, int part) {
            return isIn(part, 0, PARTS - 1) ? minutes[story * PARTS + part] : 0;
        }

        int minutesOf(int story, int partsTold) {
            int sum = 0;
            for (int p = 0; p < partsTold; p++) {
                sum += minutesAt(story, p);
            }
            return sum;
        }

        int toldBy(int teller) {
            int found = 0;
            for (int s = 0; s < STORIES; s++) {
                if (tellers[s] == teller) {
                    found |= 1 << s;
                }
            }
            return found;
        }

        boolean hasWait(int story, int part, int other) {
            for (int w = 0; w < waitCount; w++) {
                if (waits[w] == 100 * story + 10 * part + other) {
                    return true;
                }
            }
            return false;
        }

        int addWait(int story, int part, int other) {
            int number = waitCount;
            if (number < WAITS) {
                waits[number] = 100 * story + 10 * part + other;
                waitCount++;
                gatherNeeds();
            }
            return number;
        }

        int removeWait(int wait) {
            for (int w = wait; w < waitCount - 1; w++) {
                waits[w] = waits[w + 1];
            }
            waitCount--;
            gatherNeeds();
            return waitCount;
        }

        private void dropWaitsBeyond(int story, int partCount) {
            int left = 0;
            for (int w = 0; w < waitCount; w++) {
                boolean goes = storyOf(w) == story && partOf(w) >= partCount;
                if (!goes) {
                    waits[left] = waits[w];
                    left++;
                }
            }
            waitCount = left;
            gatherNeeds();
        }

        private void gatherNeeds() {
            for (int p = 0; p < STORIES * PARTS; p++) {
                needs[p] = 0;
            }
            for (int w = 0; w < waitCount; w++) {
                needs[storyOf(w) * PARTS + partOf(w)] |= 1 << otherOf(w);
            }
        }

        int storyOf(int wait) {
            return waits[wait] / 100;
        }

        int partOf(int wait) {
            return waits[wait] / 10 % 10;
        }

        int otherOf(int wait) {
            return waits[wait] % 10;
        }
    }

    /**
     * How far an evening has come, and who may go on from there. It is packed in one number: how many parts of
     * each story are told, three bits each, and above these the row of the open stories, each by its number
     * plus one in three bits. The lowest in the row is the one that alone may go on by the law: under INNER the
     * one that began last, under OUTER the one that began first. Under ANY no order counts and the row stays
     * empty, so that evenings that differ by it alone are one.
     */
    private static final class Moment {
        private static final int ROW = 3 * STORIES;
        private static final int TOLD_OUT = 1, MAY_NOT_GO_ON = 2, MAY_NOT_BEGIN = 3, TELLER_HAS_ONE = 4, PART_WAITS = 5;

        private final Book book;
        private int night;
        private int open;
        private int out;
        private int mayGoOn;
        private int busyTellers;
        private boolean mayBegin;

        Moment(Book book) {
            this.book = book;
        }

        static int partsTold(int night, int story) {
            return night >> 3 * story & 7;
        }

        static int allPartsTold(int night) {
            return partsTold(night, 0) + partsTold(night, 1) + partsTold(night, 2) + partsTold(night, 3);
        }

        void look(int at) {
            night = at;
            open = 0;
            out = 0;
            busyTellers = 0;
            int atGate = 0;
            for (int s = 0; s < STORIES; s++) {
                int done = partsTold(at, s);
                if (done >= book.parts[s]) {
                    out |= 1 << s;
                } else if (done > 0) {
                    open |= 1 << s;
                    busyTellers |= 1 << book.tellers[s];
                    atGate |= (book.gates[s] >> (done - 1) & 1) << s;
                }
            }
            mayGoOn = book.law == ANY ? open : lowestOfRow();
            mayBegin = open == 0 || (atGate & mayGoOn) != 0;
        }

        private int lowestOfRow() {
            int entry = night >> ROW & 7;
            return entry == 0 ? 0 : 1 << (entry - 1);
        }

        /** Why the next part of a story can not come, or 0; waits for other stories than the counted do not count. */
        int whyNot(int story, int counted) {
            int bit = 1 << story;
            if ((out & bit) != 0) {
                return TOLD_OUT;
            }
            if ((open & bit) != 0) {
                if ((mayGoOn & bit) == 0) {
                    return MAY_NOT_GO_ON;
                }
            } else if (!mayBegin) {
                return MAY_NOT_BEGIN;
            } else if ((busyTellers >> book.tellers[story] & 1) != 0) {
                return TELLER_HAS_ONE;
            }
            return waitsFor(story, counted) != 0 ? PART_WAITS : 0;
        }

        private int waitsFor(int story, int counted) {
            int part = partsTold(night, story);
            return part < PARTS ? book.needs[story * PARTS + part] & counted & ~out : 0;
        }

        int deepWith(int story) {
            return Integer.bitCount(open | 1 << story);
        }

        /** The night when one part more of a story is told, one that can come. */
        int after(int story) {
            int counts = (night & (1 << ROW) - 1) + (1 << 3 * story);
            boolean isOut = partsTold(counts, story) >= book.parts[story];
            return rowAfter(story, isOut) << ROW | counts;
        }

        private int rowAfter(int story, boolean isOut) {
            int row = night >> ROW;
            boolean wasOpen = (open >> story & 1) != 0;
            if (book.law == ANY || wasOpen != isOut) {
                return row;
            }
            if (wasOpen) {
                return row >> 3;
            }
            int entry = story + 1;
            return book.law == INNER ? row << 3 | entry : row | entry << 3 * Integer.bitCount(open);
        }
    }

    /** The evening on the pad, judged. */
    private static final class Evening {
        private final Book book;
        private final Pad pad;
        private final Moment moment;
        private int place;
        private int why;
        private int open;
        private int deep;
        private int minutes;

        Evening(Book book, Pad pad) {
            this.book = book;
            this.pad = pad;
            moment = new Moment(book);
        }

        /** To be asked when the pad has no fault as an evening; then all that is told of it stands in the fields. */
        boolean isGood() {
            place = 0;
            why = 0;
            deep = 0;
            minutes = 0;
            moment.look(0);
            int last = NONE;
            for (int i = 0; i < pad.size; i++) {
                int story = pad.signAt(i) - 'a';
                if (!isStory(story)) {
                    return false;
                }
                place = i;
                why = moment.whyNot(story, ALL);
                if (why != 0) {
                    return false;
                }
                tellPart(story, last);
                last = story;
            }
            open = moment.open;
            return true;
        }

        private void tellPart(int story, int last) {
            deep = Math.max(deep, moment.deepWith(story));
            minutes += book.minutesAt(story, Moment.partsTold(moment.night, story));
            if (isStory(last) && book.tellers[last] != book.tellers[story]) {
                minutes += book.breath;
            }
            moment.look(moment.after(story));
        }
    }

    /**
     * All nights to which the evenings of a set come, no deeper than so many, and the ways between them. A night
     * stands behind all those with fewer parts told, so a loop backward has what comes of a night before the
     * night itself.
     */
    private static final class Nights {
        /** Four stories of four parts: for each k of them open, 4 over k, times 3^k, times 2^(4-k), times k! orders. */
        private static final int MOST = 3784;
        private static final int NODE_BITS = 12;
        private static final int SLOTS = 8192;
        private static final int ROUNDS = 500000;

        private final Book book;
        private final Moment moment;
        private final int[] nights = new int[MOST];
        private final int[] next = new int[MOST * STORIES];
        /** What a night is worth to the one that asks; each asker fills it anew. */
        private final long[] worth = new long[MOST];
        /** A slot holds its round and its node, so that the slots of earlier rounds are free without being cleared. */
        private final int[] slots = new int[SLOTS];
        private int round;
        private int size;
        private int set;
        private int deep;

        Nights(Book book) {
            this.book = book;
            moment = new Moment(book);
        }

        void forget() {
            set = 0;
        }

        void gather(int ofSet, int noDeeper) {
            if (set == ofSet && deep == noDeeper) {
                return;
            }
            set = ofSet;
            deep = noDeeper;
            beginRound();
            nodeOf(0);
            for (int node = 0; node < size && node < MOST; node++) {
                expand(node);
            }
        }

        private void beginRound() {
            size = 0;
            round++;
            if (round >= ROUNDS) {
                for (int i = 0; i < SLOTS; i++) {
                    slots[i] = 0;
                }
                round = 1;
            }
        }

        private void expand(int node) {
            moment.look(nights[node]);
            for (int s = 0; s < STORIES; s++) {
                next[node * STORIES + s] = canCome(s) ? nodeOf(moment.after(s)) : NONE;
            }
        }

        private boolean canCome(int story) {
            return (set >> story & 1) != 0 && moment.deepWith(story) <= deep && moment.whyNot(story, set) == 0;
        }

        private int nodeOf(int night) {
            int slot = night * 0x9E3779B1 >>> 19;
            for (int tries = 0; tries < SLOTS; tries++) {
                int held = slots[slot];
                if (held >> NODE_BITS != round) {
                    return addNode(night, slot);
                }
                int node = held & (1 << NODE_BITS) - 1;
                if (node < size && nights[node] == night) {
                    return node;
                }
                slot = slot + 1 & SLOTS - 1;
            }
            return NONE;
        }

        private int addNode(int night, int slot) {
            if (size >= MOST) {
                return NONE;
            }
            int node = size;
            nights[node] = night;
            slots[slot] = round << NODE_BITS | node;
            size++;
            return node;
        }

        /** The node behind a part of a story more, or NONE. */
        int nodeAfter(int node, int story) {
            int to = next[node * STORIES + story];
            return isIn(to, 0, size - 1) ? to : NONE;
        }

        boolean isOut(int node, int story) {
            return Moment.partsTold(nights[node], story) >= book.parts[story];
        }

        boolean isAllOut(int node) {
            for (int s = 0; s < STORIES; s++) {
                if ((set >> s & 1) != 0 && !isOut(node, s)) {
                    return false;
                }
            }
            return true;
        }

        int minutesAt(int node) {
            int sum = 0;
            for (int s = 0; s < STORIES; s++) {
                sum += book.minutesOf(s, Moment.partsTold(nights[node], s));
            }
            return sum;
        }
    }

    /** The evenings by which the set whose nights are gathered is told out. */
    private static final class Out {
        /** More breath than any evening takes: no evening comes of this night. */
        private static final int ENDLESS = 10000;
        private static final int PRICE_BITS = 16;

        private final Book book;
        private final Nights nights;
        private final int[] ownPrice = new int[TELLERS];
        private final boolean[] isEnd = new boolean[MINUTES + 1];

        Out(Book book, Nights nights) {
            this.book = book;
            this.nights = nights;
        }

        long evenings() {
            for (int node = nights.size - 1; node >= 0; node--) {
                long sum = nights.isAllOut(node) ? 1 : 0;
                for (int s = 0; s < STORIES; s++) {
                    int to = nights.nodeAfter(node, s);
                    sum += to == NONE ? 0 : nights.worth[to];
                }
                nights.worth[node] = sum;
            }
            return nights.worth[0];
        }

        int leastMinutes() {
            priceAll();
            int breath = leastPrice(0, NONE);
            if (breath >= ENDLESS) {
                return NONE;
            }
            int sum = breath;
            for (int s = 0; s < STORIES; s++) {
                sum += (nights.set >> s & 1) == 0 ? 0 : book.minutesOf(s, book.parts[s]);
            }
            return sum;
        }

        int leastLetter(int i) {
            priceAll();
            int node = 0;
            int last = NONE;
            for (int place = 0; place < STORIES * PARTS && node != NONE; place++) {
                int story = cheapestStory(node, last);
                if (story == NONE || place == i) {
                    return story == NONE ? NONE : 'a' + story;
                }
                node = nights.nodeAfter(node, story);
                last = book.tellers[story];
            }
            return NONE;
        }

        /** What each night is worth: for each teller that told last the least breath still to come, packed. */
        private void priceAll() {
            for (int node = nights.size - 1; node >= 0; node--) {
                nights.worth[node] = nights.isAllOut(node) ? 0 : packedPrices(node);
            }
        }

        private long packedPrices(int node) {
            for (int t = 0; t < TELLERS; t++) {
                ownPrice[t] = ENDLESS;
            }
            int least = ENDLESS;
            for (int s = 0; s < STORIES; s++) {
                int teller = book.tellers[s];
                int price = priceOf(node, s, teller);
                ownPrice[teller] = Math.min(ownPrice[teller], price);
                least = Math.min(least, price);
            }
            long packed = 0;
            for (int t = 0; t < TELLERS; t++) {
                packed |= (long) Math.min(ownPrice[t], least + book.breath) << PRICE_BITS * t;
            }
            return packed;
        }

        /** The least breath from a night on, if a story comes next behind a part of the last teller (or NONE). */
        private int priceOf(int node, int story, int last) {
            int to = nights.nodeAfter(node, story);
            if (to == NONE) {
                return ENDLESS;
            }
            int teller = book.tellers[story];
            int price = (int) (nights.worth[to] >> PRICE_BITS * teller) & (1 << PRICE_BITS) - 1;
            return last == NONE || last == teller ? price : price + book.breath;
        }

        private int leastPrice(int node, int last) {
            int least = ENDLESS;
            for (int s = 0; s < STORIES; s++) {
                least = Math.min(least, priceOf(node, s, last));
            }
            return least;
        }

        private int cheapestStory(int node, int last) {
            int least = leastPrice(node, last);
            if (least >= ENDLESS) {
                return NONE;
            }
            for (int s = 0; s < STORIES; s++) {
                if (priceOf(node, s, last) == least) {
                    return s;
                }
            }
            return NONE;
        }

        void markEnds(int story) {
            for (int m = 0; m <= MINUTES; m++) {
                isEnd[m] = false;
            }
            evenings();
            for (int node = 0; node < nights.size; node++) {
                int to = nights.nodeAfter(node, story);
                if (to != NONE && nights.isOut(to, story) && nights.worth[to] > 0) {
                    markMinute(nights.minutesAt(to));
                }
            }
        }

        private void markMinute(int minute) {
            if (isIn(minute, 0, MINUTES)) {
                isEnd[minute] = true;
            }
        }

        int marked() {
            int count = 0;
            for (int m = 0; m <= MINUTES; m++) {
                count += isEnd[m] ? 1 : 0;
            }
            return count;
        }

        int markedMinute(int i) {
            int before = 0;
            for (int m = 0; m <= MINUTES; m++) {
                if (isEnd[m] && before == i) {
                    return m;
                }
                before += isEnd[m] ? 1 : 0;
            }
            return NONE;
        }
    }

    /** Two sides tell the gathered set by turns; side 0 wishes that a story is told out at just a minute. */
    private static final class Game {
        private final Nights nights;

        Game(Nights nights) {
            this.nights = nights;
        }

        /** What each night is worth: 1 if side 0 can have its wish from there. */
        void play(int story, int minute) {
            for (int node = nights.size - 1; node >= 0; node--) {
                boolean wins = nights.isOut(node, story) ? nights.minutesAt(node) == minute : canWin(node);
                nights.worth[node] = wins ? 1 : 0;
            }
        }

        private boolean canWin(int node) {
            int moves = 0;
            int wins = 0;
            for (int s = 0; s < STORIES; s++) {
                int to = nights.nodeAfter(node, s);
                if (to != NONE) {
                    moves++;
                    wins += nights.worth[to] > 0 ? 1 : 0;
                }
            }
            boolean isTurnOfSide0 = Moment.allPartsTold(nights.nights[node]) % 2 == 0;
            return wins > 0 && (isTurnOfSide0 || wins == moves);
        }

        int winningBegin() {
            for (int s = 0; s < STORIES; s++) {
                int to = nights.nodeAfter(0, s);
                if (to != NONE && nights.worth[to] > 0) {
                    return s;
                }
            }
            return NONE;
        }
    }

    /** What was heard through the wall: the pad, as minutes of parts; the nights of all stories are gathered. */
    private static final class Wall {
        private final Book book;
        private final Nights nights;
        private final Pad pad;
        private final boolean[] isReached = new boolean[Nights.MOST];

        Wall(Book book, Nights nights, Pad pad) {
            this.book = book;
            this.nights = nights;
            this.pad = pad;
        }

        /** How many evenings there are; what each night is worth: in how many ways the rest of the wall comes. */
        long evenings() {
            for (int node = nights.size - 1; node >= 0; node--) {
                int place = Moment.allPartsTold(nights.nights[node]);
                long sum = place == pad.size ? 1 : 0;
                for (int s = 0; s < STORIES; s++) {
                    int to = soundsAfter(node, s, place);
                    sum += to == NONE ? 0 : nights.worth[to];
                }
                nights.worth[node] = sum;
            }
            return nights.worth[0];
        }

        /** The node behind a part of a story more, if the part sounds like the wall there; else NONE. */
        private int soundsAfter(int node, int story, int place) {
            int part = Moment.partsTold(nights.nights[node], story);
            boolean sounds = place < pad.size && book.minutesAt(story, part) == pad.signAt(place) - '0';
            return sounds ? nights.nodeAfter(node, story) : NONE;
        }

        int firstLetter(int i) {
            if (!isIn(i, 0, pad.size - 1) || evenings() == 0) {
                return NONE;
            }
            int node = 0;
            for (int place = 0; place < pad.size && node != NONE; place++) {
                int story = firstStory(node, place);
                if (story == NONE || place == i) {
                    return story == NONE ? NONE : 'a' + story;
                }
                node = nights.nodeAfter(node, story);
            }
            return NONE;
        }

        private int firstStory(int node, int place) {
            for (int s = 0; s < STORIES; s++) {
                int to = soundsAfter(node, s, place);
                if (to != NONE && nights.worth[to] > 0) {
                    return s;
                }
            }
            return NONE;
        }

        int storiesAt(int place) {
            evenings();
            for (int node = 0; node < nights.size; node++) {
                isReached[node] = node == 0;
            }
            int found = 0;
            for (int node = 0; node < nights.size; node++) {
                int here = Moment.allPartsTold(nights.nights[node]);
                if (isReached[node] && here <= place) {
                    int likely = reachFrom(node, here);
                    found |= here == place ? likely : 0;
                }
            }
            return found;
        }

        /** Marks the nights that come behind a night; the stories by which the rest of the wall can come. */
        private int reachFrom(int node, int place) {
            int found = 0;
            for (int s = 0; s < STORIES; s++) {
                int to = soundsAfter(node, s, place);
                if (to != NONE && nights.worth[to] > 0) {
                    isReached[to] = true;
                    found |= 1 << s;
                }
            }
            return found;
        }
    }

    /**
     * Rings of waits. A story with a part that waits for another one is told out behind that one; so a set with
     * a ring of such stories has no evening. One without a ring has: one story behind the other, each whole, those
     * first that wait for none of the rest. No law, teller, gate or depth is against that.
     */
    private static final class Rings {
        private final Book book;

        Rings(Book book) {
            this.book = book;
        }

        boolean isRing(int set, int without) {
            int rest = set;
            for (int turn = 0; turn < STORIES; turn++) {
                rest = waiting(rest, without);
            }
            return rest != 0;
        }

        /** The stories of a set that wait for another one of it, some waits left out. */
        private int waiting(int set, int without) {
            int found = 0;
            for (int w = 0; w < book.waitCount; w++) {
                int story = book.storyOf(w);
                boolean counts = (without >> w & 1) == 0 && (set >> book.otherOf(w) & 1) != 0;
                if (counts && (set >> story & 1) != 0) {
                    found |= 1 << story;
                }
            }
            return found;
        }

        int fewestToDrop(int set) {
            int best = (1 << book.waitCount) - 1;
            for (int drops = (1 << book.waitCount) - 1; drops >= 0; drops--) {
                boolean isNoMore = Integer.bitCount(drops) <= Integer.bitCount(best);
                if (isNoMore && !isRing(set, drops)) {
                    best = drops;
                }
            }
            return best;
        }
    }
}
