import java.util.ArrayList;
import java.util.List;
import java.util.TreeSet;

/**
 * The class beside a model that has a memory of words and sets them one by one, so that a cut falls
 * between two real words. The numbers of the document (3, 10, 62, 20, 1) stand nowhere in the model's
 * counting: they follow from its layout.
 */
public final class WordModelTest {

    private static final class Cut extends RuntimeException {
        private static final long serialVersionUID = 1L;
    }

    private static final class Key implements Comparable<Key> {
        final long[] words;
        final int place;

        Key(long a, long b, long c, long d, int place) {
            this.words = new long[] {a, b, c, d};
            this.place = place;
        }

        @Override
        public int compareTo(Key o) {
            for (int k = 0; k < 4; k++) {
                int order = Long.compareUnsigned(words[k], o.words[k]);
                if (order != 0) {
                    return order;
                }
            }
            return Integer.compare(place, o.place);
        }
    }

    /**
     * A page: its state (level and which slots are in use), its right, its mode, its low (nine words),
     * and twelve slots of ten words each, two of which are free even in a full page.
     */
    private static final class Model {
        static final int STATE = 0;
        static final int RIGHT = 1;
        static final int MODE = 2;
        static final int LOW = 3;
        static final int SLOTS = 12;
        static final int SLOT_COUNT = 12;
        static final int SLOT_SIZE = 10;
        static final Key LOWEST = new Key(0, 0, 0, 0, -1);

        final int[][] memory = new int[60][SLOTS + SLOT_COUNT * SLOT_SIZE];
        final boolean[] taken = new boolean[60];
        final List<Integer> takenForThis = new ArrayList<>();
        final TreeSet<Key> entries = new TreeSet<>();
        int words;
        int charge = -1;
        Key at = LOWEST;
        boolean behind;
        Key hand = new Key(0, 0, 0, 0, 0);

        Model() {
            makeTree();
        }

        void makeTree() {
            java.util.Arrays.fill(taken, false);
            taken[0] = true;
            int kept = charge;
            charge = -1;
            set(0, RIGHT, -1);
            set(0, MODE, 1);
            set(0, STATE, 0);
            for (int i = 0; i < 8; i++) {
                memory[0][LOW + i] = 0;
            }
            memory[0][LOW + 8] = -1;
            charge = kept;
            entries.clear();
            at = LOWEST;
            behind = false;
        }

        void set(int page, int index, int value) {
            if (charge == 0) {
                charge = -1;
                throw new Cut();
            }
            if (charge > 0) {
                charge--;
            }
            memory[page][index] = value;
            words++;
        }

        void setKey(int page, int from, Key key) {
            for (int k = 0; k < 4; k++) {
                set(page, from + 2 * k, (int) (key.words[k] >>> 32));
                set(page, from + 2 * k + 1, (int) key.words[k]);
            }
            set(page, from + 8, key.place);
        }

        Key keyAt(int page, int from) {
            long[] w = new long[4];
            for (int k = 0; k < 4; k++) {
                w[k] = (long) memory[page][from + 2 * k] << 32 | memory[page][from + 2 * k + 1] & 0xffffffffL;
            }
            return new Key(w[0], w[1], w[2], w[3], memory[page][from + 8]);
        }

        int levelOf(int page) {
            return memory[page][STATE] >>> 16;
        }

        int rightOf(int page) {
            return memory[page][RIGHT];
        }

        Key slotKey(int page, int slot) {
            return keyAt(page, SLOTS + slot * SLOT_SIZE);
        }

        int slotPage(int page, int slot) {
            return memory[page][SLOTS + slot * SLOT_SIZE + 9];
        }

        /** The slots in use whose keys the page is in charge of, by rising keys. */
        List<Integer> slots(int page) {
            List<Integer> found = new ArrayList<>();
            for (int i = 0; i < SLOT_COUNT; i++) {
                boolean used = (memory[page][STATE] >>> i & 1) != 0;
                int right = rightOf(page);
                if (used && (right < 0 || slotKey(page, i).compareTo(keyAt(right, LOW)) < 0)) {
                    found.add(i);
                }
            }
            found.sort((x, y) -> slotKey(page, x).compareTo(slotKey(page, y)));
            return found;
        }

        int bits(List<Integer> slots) {
            int bits = 0;
            for (int i : slots) {
                bits |= 1 << i;
            }
            return bits;
        }

        int inCharge(int level, Key key) {
            int page = 0;
            while (true) {
                while (rightOf(page) >= 0 && keyAt(rightOf(page), LOW).compareTo(key) <= 0) {
                    page = rightOf(page);
                }
                if (levelOf(page) == level) {
                    return page;
                }
                int below = -1;
                for (int slot : slots(page)) {
                    if (slotKey(page, slot).compareTo(key) <= 0) {
                        below = slotPage(page, slot);
                    }
                }
                page = below;
            }
        }

        int find(Key key) {
            int page = inCharge(0, key);
            for (int slot : slots(page)) {
                if (slotKey(page, slot).compareTo(key) == 0) {
                    return slot;
                }
            }
            return -1;
        }

        int freePages() {
            int free = 0;
            for (boolean t : taken) {
                free += t ? 0 : 1;
            }
            return free;
        }

        boolean takeWhatIsNeeded(Key key) {
            int need = 0;
            Key put = key;
            for (int l = 0; l <= levelOf(0); l++) {
                int page = inCharge(l, put);
                List<Integer> slots = slots(page);
                if (slots.size() < 10) {
                    break;
                }
                need += page == 0 ? 2 : 1;
                put = slotKey(page, slots.get(5));
            }
            if (need > freePages()) {
                return false;
            }
            takenForThis.clear();
            for (int i = 0; i < 60 && takenForThis.size() < need; i++) {
                if (!taken[i]) {
                    taken[i] = true;
                    takenForThis.add(i);
                }
            }
            return true;
        }

        int add(Key key) {
            if (key.place < 0) {
                return -1;
            }
            if (find(key) >= 0) {
                return 0;
            }
            if (!takeWhatIsNeeded(key)) {
                return -1;
            }
            try {
                put(0, key, 0);
            } catch (Cut cut) {
                return -2;
            }
            entries.add(key);
            return 1;
        }

        void writePage(int page, int level, Key low, int right, int from, List<Integer> slots) {
            for (int i = 0; i < slots.size(); i++) {
                setKey(page, SLOTS + i * SLOT_SIZE, slotKey(from, slots.get(i)));
                set(page, SLOTS + i * SLOT_SIZE + 9, slotPage(from, slots.get(i)));
            }
            setKey(page, LOW, low);
            set(page, RIGHT, right);
            set(page, MODE, 1);
            set(page, STATE, level << 16 | (1 << slots.size()) - 1);
        }

        void put(int level, Key key, int below) {
            int page = inCharge(level, key);
            List<Integer> slots = slots(page);
            if (slots.size() == 10 && page == 0) {
                int a = takenForThis.remove(0);
                int b = takenForThis.remove(0);
                Key lowOfB = slotKey(0, slots.get(5));
                writePage(a, level, LOWEST, b, 0, slots.subList(0, 5));
                writePage(b, level, lowOfB, -1, 0, slots.subList(5, 10));
                int used = memory[0][STATE] & 0xfff;
                int m = Integer.numberOfTrailingZeros(~used);
                int n = Integer.numberOfTrailingZeros(~(used | 1 << m));
                setKey(0, SLOTS + m * SLOT_SIZE, LOWEST);
                set(0, SLOTS + m * SLOT_SIZE + 9, a);
                setKey(0, SLOTS + n * SLOT_SIZE, lowOfB);
                set(0, SLOTS + n * SLOT_SIZE + 9, b);
                set(0, STATE, level + 1 << 16 | 1 << m | 1 << n);
            } else if (slots.size() == 10) {
                int fresh = takenForThis.remove(0);
                Key low = slotKey(page, slots.get(5));
                writePage(fresh, level, low, rightOf(page), page, slots.subList(5, 10));
                set(page, RIGHT, fresh);
                set(page, STATE, level << 16 | bits(slots.subList(0, 5)));
                put(level + 1, low, fresh);
            }
            insert(inCharge(level, key), level, key, below);
        }

        void insert(int page, int level, Key key, int below) {
            int bits = bits(slots(page));
            if ((memory[page][STATE] & 0xfff) != bits) {
                set(page, STATE, level << 16 | bits);
            }
            int slot = Integer.numberOfTrailingZeros(~bits);
            setKey(page, SLOTS + slot * SLOT_SIZE, key);
            set(page, SLOTS + slot * SLOT_SIZE + 9, below);
            set(page, STATE, level << 16 | bits | 1 << slot);
        }

        int remove(Key key) {
            if (key.place < 0 || find(key) < 0) {
                return 0;
            }
            int page = inCharge(0, key);
            try {
                set(page, STATE, bits(slots(page)) & ~(1 << find(key)));
            } catch (Cut cut) {
                return -2;
            }
            entries.remove(key);
            return 1;
        }

        boolean next() {
            Key found = behind ? entries.higher(at) : entries.ceiling(at);
            return take(found, true);
        }

        boolean back() {
            Key found = behind ? entries.floor(at) : entries.lower(at);
            return take(found, false);
        }

        boolean take(Key found, boolean nowBehind) {
            if (found == null) {
                return false;
            }
            hand = found;
            at = found;
            behind = nowBehind;
            return true;
        }

        int count(int what) {
            switch (what) {
                case 0: return levelOf(0) + 1;
                case 1: return 60 - freePages();
                case 2: return words;
                case 3: return entries.size();
                default: return -1;
            }
        }

        int level(int l, int what) {
            if (l < 0 || l > levelOf(0) || what < 0) {
                return -1;
            }
            List<Integer> sizes = new ArrayList<>();
            int sum = 0;
            for (int page = inCharge(l, LOWEST); page >= 0; page = rightOf(page)) {
                sizes.add(slots(page).size());
                sum += slots(page).size();
            }
            if (what < 2) {
                return what == 0 ? sizes.size() : sum;
            }
            return what - 2 < sizes.size() ? sizes.get(what - 2) : -1;
        }
    }

    /** Both at once; the calls are counted, as nothing is promised behind the 512th. */
    private static final class Pair {
        final SideLinkTree tree = new SideLinkTree();
        final Model model = new Model();
        final String name;
        int calls;

        Pair(String name) {
            this.name = name;
        }

        int left() {
            return 512 - calls;
        }

        long same(String call, long got, long want) {
            calls++;
            if (got != want && calls <= 512) {
                wrong++;
                if (wrong < 50) {
                    System.out.println(name + ", call " + calls + ", " + call + " answered " + got + ", due is " + want);
                }
            }
            return want;
        }

        long same(String call, boolean got, boolean want) {
            return same(call, got ? 1 : 0, want ? 1 : 0);
        }

        long add(Key k) {
            return same("add", tree.add(k.words[0], k.words[1], k.words[2], k.words[3], k.place), model.add(k));
        }

        void remove(Key k) {
            same("remove", tree.remove(k.words[0], k.words[1], k.words[2], k.words[3], k.place), model.remove(k));
        }

        Key entryNear(Key k) {
            Key found = model.entries.ceiling(k);
            if (found == null) {
                found = model.entries.floor(k);
            }
            return found == null ? k : found;
        }

        void has(Key k) {
            boolean want = k.place >= 0 && model.find(k) >= 0;
            if (want != model.entries.contains(k)) {
                wrong++;
                System.out.println(name + ": the model lost an entry");
            }
            same("has", tree.has(k.words[0], k.words[1], k.words[2], k.words[3], k.place), want);
        }

        void seek(Key k) {
            calls++;
            tree.seek(k.words[0], k.words[1], k.words[2], k.words[3]);
            model.at = new Key(k.words[0], k.words[1], k.words[2], k.words[3], -1);
            model.behind = false;
        }

        void first() {
            calls++;
            tree.first();
            model.at = Model.LOWEST;
            model.behind = false;
        }

        void last() {
            calls++;
            tree.last();
            model.at = new Key(-1, -1, -1, -1, Integer.MAX_VALUE);
            model.behind = true;
        }

        void go(boolean on) {
            if (on) {
                same("next", tree.next(), model.next());
            } else {
                same("back", tree.back(), model.back());
            }
        }

        void hand() {
            for (int k = 0; k < 4; k++) {
                same("word " + k, tree.word(k), model.hand.words[k]);
            }
            same("place", tree.place(), model.hand.place);
        }

        void clear() {
            calls++;
            tree.clear();
            model.makeTree();
        }

        void charge(int n) {
            boolean fine = n >= 0 && n <= 999;
            if (fine) {
                model.charge = n;
            }
            same("charge " + n, tree.charge(n), fine);
        }

        void counts() {
            for (int what = 0; what < 4; what++) {
                same("count " + what, tree.count(what), model.count(what));
            }
        }

        void levels() {
            for (int l = 0; l <= model.levelOf(0) + 1; l++) {
                int pages = Math.max(0, model.level(l, 0));
                for (int what = 0; what <= pages + 2 && left() > 0; what++) {
                    same("level " + l + " " + what, tree.level(l, what), model.level(l, what));
                }
            }
        }

        void through() {
            first();
            for (int i = 0; i <= model.entries.size() && left() > 2; i++) {
                go(true);
                same("word 3", tree.word(3), model.hand.words[3]);
            }
        }
    }

    private static int wrong = 0;
    private static long seed = 1;

    private static int pick(int n) {
        seed = seed * 6364136223846793005L + 1442695040888963407L;
        return (int) ((seed >>> 33) % n);
    }

    private static final long[] EDGES = {0, 1, Long.MAX_VALUE, Long.MIN_VALUE, -2, -1};

    private static Key pickKey(int style, int i) {
        switch (style) {
            case 0: return new Key(0, 0, 0, pick(12), pick(12));
            case 1: return new Key(0, 0, 0, i, 0);
            case 2: return new Key(0, 0, 0, 1000 - i, pick(2));
            case 3: return new Key(EDGES[pick(6)], EDGES[pick(6)], EDGES[pick(6)], EDGES[pick(6)], pick(3) - 1);
            default: return new Key(pick(5) - 2, 0, 0, pick(400), pick(3));
        }
    }

    /** Around these a cut falls between the steps of a split, in level 0 or in one above. */
    private static final int[] STEPS = {0, 1, 10, 11, 62, 63, 64, 65, 74, 75, 126, 127, 128, 144, 145, 208, 209};

    private static int pickCharge() {
        switch (pick(8)) {
            case 0: return pick(1200) - 100;
            case 1: return pick(90);
            case 2: return pick(250);
            default: return STEPS[pick(STEPS.length)];
        }
    }

    private static void randomRun(int number) {
        int style = number % 5;
        int cutEvery = new int[] {0, 2, 3, 8, 20}[pick(5)];
        int removes = new int[] {0, 5, 25, 45}[pick(4)];
        int clears = pick(6) == 0 ? 100 : 0;
        Pair p = new Pair("random run " + number);
        for (int i = 0; p.left() > 130; i++) {
            if (cutEvery > 0 && pick(cutEvery) == 0) {
                p.charge(pickCharge());
            }
            if (clears > 0 && pick(clears) == 0) {
                p.clear();
            }
            Key key = pickKey(style, i);
            int what = pick(100);
            if (what < removes) {
                p.remove(pick(3) == 0 ? key : p.entryNear(key));
            } else if (what < 85) {
                if (p.add(key) == -2 && pick(3) > 0) {
                    p.counts();
                    p.add(key);
                }
            } else if (what < 88) {
                p.has(key);
            } else if (what < 90) {
                p.seek(key);
            } else if (what < 91) {
                p.first();
            } else if (what < 92) {
                p.last();
            } else {
                p.go(pick(2) == 0);
                p.hand();
            }
        }
        p.counts();
        p.levels();
        p.through();
    }

    /** The keys of a row go over the change of the sign. */
    private static Key ofRow(int i, boolean falling) {
        return ofRow(i, falling, 0);
    }

    private static Key ofRow(int i, boolean falling, int place) {
        long w = falling ? Long.MIN_VALUE + 60 - i : Long.MAX_VALUE - 60 + i;
        return new Key(w, 0, 0, w, place);
    }

    private static Pair rowOf(String name, int entries, boolean falling) {
        Pair p = new Pair(name);
        for (int i = 0; i < entries; i++) {
            p.add(ofRow(i, falling));
        }
        return p;
    }

    /** The next entry of a row, cut at each of its words, and then tried again. */
    private static void everyCut(int entries, boolean falling) {
        Model whole = rowOf("whole", entries, falling).model;
        int before = whole.words;
        Key key = ofRow(entries, falling);
        whole.add(key);
        for (int n = 0; n <= whole.words - before + 1; n++) {
            Pair p = rowOf((falling ? "falling " : "rising ") + entries + ", cut at " + n, entries, falling);
            p.charge(n);
            p.add(key);
            p.counts();
            p.levels();
            p.has(key);
            p.add(key);
            p.add(ofRow(entries, falling, 1));
            p.add(ofRow(entries - 8, falling, 7));
            p.counts();
            p.through();
        }
    }

    /** Two adds that are cut, one behind the other: the second falls on what the first left undone. */
    private static void twoCuts(int entries, boolean falling, int first, int second) {
        Pair p = rowOf((falling ? "falling " : "rising ") + entries + ", cut at " + first + " and " + second,
            entries, falling);
        p.charge(first);
        p.add(ofRow(entries, falling));
        // Two pages whose next marks come into the left half of the page of marks that was split.
        int one = entries * (falling ? 7 : 3) / 8;
        int other = Math.max(0, one - (falling ? 8 : -8));
        for (int place = 1; place <= 5; place++) {
            p.add(ofRow(one, falling, place));
        }
        p.charge(second);
        p.add(ofRow(one, falling, 6));
        p.charge(second);
        p.add(ofRow(entries, falling));
        p.counts();
        p.levels();
        p.charge(999);
        for (int place = 1; place <= 6; place++) {
            p.add(ofRow(other, falling, place));
        }
        p.remove(ofRow(entries - 7, falling));
        p.add(ofRow(entries - 7, falling));
        p.counts();
        p.levels();
        p.through();
    }

    /** Every split of a long row is cut at the same word, so that nothing above is as it would be. */
    private static void eachSplitCut(int charge, int every, boolean falling) {
        Pair p = new Pair((falling ? "falling" : "rising") + ", every " + every + "th add cut at " + charge);
        for (int i = 0; p.left() > 150; i++) {
            if (i % every == 0) {
                p.charge(charge);
            }
            if (p.add(ofRow(i, falling)) == -2 && every > 1) {
                p.add(ofRow(i, falling));
            }
        }
        p.counts();
        p.levels();
        for (int i = 0; p.left() > 4; i += 3) {
            p.has(ofRow(i, falling));
        }
    }

    private static void severalCuts() {
        int[] rows = {10, 15, 55, 80};
        for (int first : STEPS) {
            for (int second : STEPS) {
                for (int entries : rows) {
                    twoCuts(entries, false, first, second);
                    twoCuts(entries, true, first, second);
                }
            }
            for (int every = 1; every <= 8; every++) {
                eachSplitCut(first, every, false);
                eachSplitCut(first, every, true);
            }
        }
    }

    public static void main(String[] args) {
        for (int number = 0; number < 3000; number++) {
            randomRun(number);
        }
        severalCuts();
        // The last of these fill a root, a page, a root of marks, and a page of marks.
        int[] rows = {9, 10, 15, 55, 80};
        for (int entries : rows) {
            everyCut(entries, false);
            everyCut(entries, true);
        }
        System.out.println(wrong == 0 ? "all answers are as due" : wrong + " answers are not as due");
        if (wrong != 0) {
            System.exit(1);
        }
    }
}
