/**
 * A tree of pages with links to the right. What is counted as set words is set in such an order
 * that behind a cut between any two of them every entry is still found.
 */
public final class SideLinkTree {

    private static final int PAGES = 60;
    private static final int FULL = 10;
    private static final int HALF = 5;

    private static final int NEW_TREE_WORDS = 3;
    private static final int ENTRY_WORDS = 10;
    private static final int PAGE_WORDS = 62;

    private static final int NO_CHARGE = -1;
    private static final int HIGHEST_CHARGE = 999;

    private static final int BEFORE_ALL_PLACES = -1;
    private static final int HIGHEST_PLACE = 2147483647;

    private static final int DONE = 1;
    private static final int NOTHING_TO_DO = 0;
    private static final int REFUSED = -1;
    private static final int CUT = -2;

    private final Entry lowOfAll;
    private final Entry highOfAll;
    private final Page[] pages;
    private final Page root;

    /** Pages below this number are taken; those from firstUnused on, for the add under way. */
    private int taken;
    private int firstUnused;

    private int wordsSet;
    private int chargeLeft;

    /** The cursor stands right before this entry, or right behind it, be it in the tree or not. */
    private Entry cursorEntry;
    private boolean cursorBehind;
    private Entry inHand;

    public SideLinkTree() {
        lowOfAll = new Entry(0L, 0L, 0L, 0L, BEFORE_ALL_PLACES);
        highOfAll = new Entry(-1L, -1L, -1L, -1L, HIGHEST_PLACE);
        root = new Page(lowOfAll);
        pages = new Page[PAGES];
        pages[0] = root;
        for (int i = 1; i < PAGES; i++) {
            pages[i] = new Page(lowOfAll);
        }
        taken = 1;
        firstUnused = 1;
        wordsSet = NEW_TREE_WORDS;
        chargeLeft = NO_CHARGE;
        cursorEntry = lowOfAll;
        cursorBehind = false;
        inHand = new Entry(0L, 0L, 0L, 0L, 0);
    }

    public int add(long a, long b, long c, long d, int place) {
        if (place < 0) {
            return REFUSED;
        }
        Entry entry = new Entry(a, b, c, d, place);
        if (pageInCharge(0, entry).holds(entry)) {
            return NOTHING_TO_DO;
        }
        if (!takePages(pagesNeeded(entry))) {
            return REFUSED;
        }
        return put(0, entry, null) ? DONE : CUT;
    }

    public int remove(long a, long b, long c, long d, int place) {
        if (place < 0) {
            return NOTHING_TO_DO;
        }
        Entry entry = new Entry(a, b, c, d, place);
        Page page = pageInCharge(0, entry);
        if (!page.holds(entry)) {
            return NOTHING_TO_DO;
        }
        if (!setWords(1)) {
            return CUT;
        }
        page.drop(entry);
        // The word that drops the entry also says which others are no longer in the page.
        page.lacksWord = false;
        return DONE;
    }

    public boolean has(long a, long b, long c, long d, int place) {
        if (place < 0) {
            return false;
        }
        Entry entry = new Entry(a, b, c, d, place);
        return pageInCharge(0, entry).holds(entry);
    }

    public void seek(long a, long b, long c, long d) {
        moveCursor(new Entry(a, b, c, d, BEFORE_ALL_PLACES), false);
    }

    public void first() {
        moveCursor(lowOfAll, false);
    }

    public void last() {
        moveCursor(highOfAll, true);
    }

    public boolean next() {
        Page page = pageInCharge(0, cursorEntry);
        int passed = page.countPassed(cursorEntry, cursorBehind);
        for (int i = 0; i < PAGES && passed >= page.size && page.right != null; i++) {
            page = page.right;
            passed = 0;
        }
        if (passed >= page.size) {
            return false;
        }
        inHand = page.entryAt(passed);
        moveCursor(inHand, true);
        return true;
    }

    public boolean back() {
        Entry found = null;
        Page page = leftmostPage(0);
        // There are no links to the left, so the row is gone through from its left end.
        for (int i = 0; i < PAGES && page != null; i++) {
            int passed = page.countPassed(cursorEntry, cursorBehind);
            if (passed > 0) {
                found = page.entryAt(passed - 1);
            }
            page = page.right;
        }
        if (found == null) {
            return false;
        }
        inHand = found;
        moveCursor(found, false);
        return true;
    }

    public long word(int k) {
        switch (k) {
            case 0:
                return inHand.a;
            case 1:
                return inHand.b;
            case 2:
                return inHand.c;
            case 3:
                return inHand.d;
            default:
                return 0L;
        }
    }

    public int place() {
        return inHand.place;
    }

    public void clear() {
        root.reset(0, lowOfAll);
        taken = 1;
        firstUnused = 1;
        // These words are set past the charge, which stays as it is.
        wordsSet += NEW_TREE_WORDS;
        moveCursor(lowOfAll, false);
    }

    public boolean charge(int n) {
        if (n < 0 || n > HIGHEST_CHARGE) {
            return false;
        }
        chargeLeft = n;
        return true;
    }

    public int count(int what) {
        switch (what) {
            case 0:
                return root.level + 1;
            case 1:
                return taken;
            case 2:
                return wordsSet;
            case 3:
                return level(0, 1);
            default:
                return -1;
        }
    }

    public int level(int l, int what) {
        if (l < 0 || l > root.level || what < 0) {
            return -1;
        }
        int pagesSeen = 0;
        int entriesSeen = 0;
        Page page = leftmostPage(l);
        while (pagesSeen < PAGES && page != null) {
            if (pagesSeen == what - 2) {
                return page.size;
            }
            pagesSeen++;
            entriesSeen += page.size;
            page = page.right;
        }
        if (what == 0) {
            return pagesSeen;
        }
        return what == 1 ? entriesSeen : -1;
    }

    private void moveCursor(Entry entry, boolean behind) {
        cursorEntry = entry;
        cursorBehind = behind;
    }

    /** Sets n words, or those that the charge still has; false if these were fewer. */
    private boolean setWords(int n) {
        if (chargeLeft == NO_CHARGE) {
            wordsSet += n;
            return true;
        }
        if (chargeLeft < n) {
            wordsSet += chargeLeft;
            chargeLeft = NO_CHARGE;
            return false;
        }
        wordsSet += n;
        chargeLeft -= n;
        return true;
    }

    private Page leftmostPage(int l) {
        return pageInCharge(l, lowOfAll);
    }

    private Page pageInCharge(int l, Entry entry) {
        Page page = root;
        for (int at = root.level; at > l; at--) {
            Page below = page.pageBelow(entry);
            if (below == null) {
                return page;
            }
            page = goRight(below, entry);
        }
        return page;
    }

    /** A split that was cut has no mark above; such pages are reached from their left only. */
    private static Page goRight(Page from, Entry entry) {
        Page page = from;
        for (int i = 0; i < PAGES && page.right != null; i++) {
            if (entry.compareWith(page.right.low) < 0) {
                return page;
            }
            page = page.right;
        }
        return page;
    }

    /**
     * The marks that an add puts into higher levels come into the pages in charge of the entry
     * itself: a low of a higher level is one of the level below too, so none parts the two.
     */
    private int pagesNeeded(Entry entry) {
        int needed = 0;
        for (int l = 0; l <= root.level; l++) {
            Page page = pageInCharge(l, entry);
            if (page.size < FULL) {
                return needed;
            }
            needed += page == root ? 2 : 1;
        }
        return needed;
    }

    /** What an earlier add took and, being cut, did not use, stays taken. */
    private boolean takePages(int n) {
        if (n > PAGES - taken) {
            return false;
        }
        firstUnused = taken;
        taken += n;
        return true;
    }

    private Page useTakenPage(int l) {
        if (firstUnused < 0 || firstUnused >= taken || firstUnused >= pages.length) {
            return null;
        }
        Page page = pages[firstUnused];
        firstUnused++;
        page.reset(l, lowOfAll);
        return page;
    }

    /** Puts an entry, or a mark with its page, into a level; false if it was cut. */
    private boolean put(int l, Entry entry, Page below) {
        if (l > root.level) {
            return false;
        }
        Page page = pageInCharge(l, entry);
        if (page.size >= FULL) {
            boolean whole = page == root ? splitRoot() : splitPage(page);
            if (!whole) {
                return false;
            }
        }
        return bringInto(pageInCharge(l, entry), entry, below);
    }

    private boolean bringInto(Page page, Entry entry, Page below) {
        if (page.lacksWord) {
            if (!setWords(1)) {
                return false;
            }
            page.lacksWord = false;
        }
        if (!setWords(ENTRY_WORDS + 1)) {
            return false;
        }
        page.insert(entry, below);
        return true;
    }

    private boolean splitRoot() {
        Page left = useTakenPage(root.level);
        Page right = useTakenPage(root.level);
        if (left == null || right == null) {
            return false;
        }
        if (!setWords(2 * PAGE_WORDS + 2 * ENTRY_WORDS + 1)) {
            return false;
        }
        left.append(root, 0, HALF);
        right.append(root, HALF, FULL);
        right.low = right.entryAt(0);
        left.right = right;
        root.reset(root.level + 1, lowOfAll);
        root.insert(left.low, left);
        root.insert(right.low, right);
        return true;
    }

    private boolean splitPage(Page page) {
        Page fresh = useTakenPage(page.level);
        if (fresh == null || !setWords(PAGE_WORDS + 1)) {
            return false;
        }
        fresh.append(page, HALF, FULL);
        fresh.low = fresh.entryAt(0);
        fresh.right = page.right;
        page.right = fresh;
        page.size = HALF;
        if (!setWords(1)) {
            page.lacksWord = true;
            return false;
        }
        return put(page.level + 1, fresh.low, fresh);
    }

    /** An entry of level 0, the low of a page, or where the cursor stands. */
    private static final class Entry {
        final long a;
        final long b;
        final long c;
        final long d;
        final int place;

        Entry(long a, long b, long c, long d, int place) {
            this.a = a;
            this.b = b;
            this.c = c;
            this.d = d;
            this.place = place;
        }

        int compareWith(Entry other) {
            int order = Long.compareUnsigned(a, other.a);
            if (order == 0) {
                order = Long.compareUnsigned(b, other.b);
            }
            if (order == 0) {
                order = Long.compareUnsigned(c, other.c);
            }
            if (order == 0) {
                order = Long.compareUnsigned(d, other.d);
            }
            return order != 0 ? order : Integer.compare(place, other.place);
        }
    }

    /** Entries in order; in a page above level 0 these are marks, each with its page below. */
    private static final class Page {
        final Entry[] entries;
        final Page[] below;
        int size;
        int level;
        Entry low;
        Page right;
        /** Its split was cut right before the last word: the next put into it sets that first. */
        boolean lacksWord;

        Page(Entry lowOfAll) {
            entries = new Entry[FULL];
            below = new Page[FULL];
            // So that no element is ever null.
            for (int i = 0; i < FULL; i++) {
                entries[i] = lowOfAll;
            }
            low = lowOfAll;
        }

        void reset(int newLevel, Entry newLow) {
            size = 0;
            level = newLevel;
            low = newLow;
            right = null;
            lacksWord = false;
        }

        Entry entryAt(int i) {
            return i >= 0 && i < entries.length ? entries[i] : low;
        }

        /** How many entries stand before what is right before, or right behind, the given one. */
        int countPassed(Entry entry, boolean behind) {
            int passed = 0;
            while (passed < size && passed < entries.length) {
                int order = entries[passed].compareWith(entry);
                if (order > 0 || order == 0 && !behind) {
                    return passed;
                }
                passed++;
            }
            return passed;
        }

        boolean holds(Entry entry) {
            return countPassed(entry, true) > countPassed(entry, false);
        }

        Page pageBelow(Entry entry) {
            int mark = countPassed(entry, true) - 1;
            return mark >= 0 && mark < below.length ? below[mark] : null;
        }

        void insert(Entry entry, Page itsPage) {
            if (size < 0 || size >= FULL) {
                return;
            }
            int at = countPassed(entry, false);
            for (int i = size; i > at; i--) {
                entries[i] = entries[i - 1];
                below[i] = below[i - 1];
            }
            entries[at] = entry;
            below[at] = itsPage;
            size++;
        }

        void drop(Entry entry) {
            if (!holds(entry)) {
                return;
            }
            for (int i = countPassed(entry, false); i < size - 1; i++) {
                entries[i] = entries[i + 1];
                below[i] = below[i + 1];
            }
            size--;
        }

        void append(Page from, int start, int end) {
            for (int i = start; i < end && i < from.size && size < FULL; i++) {
                entries[size] = from.entries[i];
                below[size] = from.below[i];
                size++;
            }
        }
    }
}
