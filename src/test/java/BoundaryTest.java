/**
 * For each sentence of the document that names a boundary case, one test, with the sentence quoted at
 * its head. The quotes are looked up in the document, so that none outlives its sentence.
 */
public final class BoundaryTest extends Sentences {
    // ---- What it is

    private static void foundAtEveryMoment() {
        by("pages are split so that at every moment, also behind a cut between any two words that are set, "
            + "all entries are found.");
        // The next add splits: none, the root, a page, a page and a root of marks, two pages.
        int[] entries = {9, 10, 15, 55, 80};
        int[] words = {11, 145 + 11, 64 + 11 + 11, 64 + 145 + 11 + 11, 64 + 64 + 11 + 11 + 11};
        for (int i = 0; i < entries.length; i++) {
            for (int n = 0; n <= words[i]; n++) {
                SideLinkTree x = rising(entries[i]);
                due("charge", x.charge(n), true);
                int last = n < words[i] ? entries[i] : entries[i] + 1;
                due("add cut behind " + n, add(x, entries[i] + 1, 0), n < words[i] ? -2 : 1);
                dueAllFound(entries[i] + " entries, cut behind " + n, x, last);
            }
        }
    }

    private static void foundBehindManyCuts() {
        by("pages are split so that at every moment, also behind a cut between any two words that are set, "
            + "all entries are found.");
        // No page that splits from here on gets a mark: all are reached from their left.
        SideLinkTree x = rising(10);
        cutAdd(x, 145, 11, 0);
        int n = 10;
        for (int i = 0; i < 16; i++) {
            addAll(x, n + 1, n + 5);
            n += 5;
            cutAdd(x, 64, n + 1, 0);
        }
        due("marks", x.level(1, 1), 2);
        due("pages", x.level(0, 0), 18);
        x.first();
        for (int i = 1; i <= n; i++) {
            due("has " + i, has(x, i, 0), true);
            due("next", x.next(), true);
        }
        due("last in hand", x.word(3), n);
    }

    private static void at512Calls() {
        by("An object is used for at most 512 calls after it has been made; what later calls answer is free.");
        SideLinkTree x = rising(255);
        due("call 256", add(x, 256, 0), -1);
        for (int i = 1; i <= 255; i++) {
            due("call " + (256 + i), has(x, i, 0), true);
        }
        due("call 512", x.count(3), 255);
        // Their answers are free, but none of them may throw or go on for ever.
        for (int i = 0; i < 2000; i++) {
            x.charge(i % 1100 - 50);
            x.add(i, -i, i, -i, i - 5);
            x.remove(i / 2, 0, 0, i, 0);
            x.has(i, 0, 0, i, i);
            x.seek(i, i, i, i);
            x.next();
            x.back();
            x.level(i % 5, i % 70);
            if (i % 300 == 0) {
                x.clear();
            }
        }
    }

    // ---- Terms

    private static void wordsWithoutSign() {
        by("An ENTRY has a KEY, four words a, b, c, d (longs, compared without sign, a first), and a PLACE "
            + "(an int from 0 on).");
        long[] rising = {0L, 1L, Long.MAX_VALUE, Long.MIN_VALUE, -2L, -1L};
        for (int k = 0; k < 4; k++) {
            SideLinkTree x = new SideLinkTree();
            for (int i = 0; i < 6; i++) {
                long w = rising[i * 5 % 6];
                // The words behind word k fall, so that a later one must not go before it.
                due("add", x.add(k == 0 ? w : 7L, k == 1 ? w : k < 1 ? ~w : 7L, k == 2 ? w : k < 2 ? ~w : 7L,
                    k == 3 ? w : ~w, 0), 1);
            }
            for (long w : rising) {
                due("next by word " + k, x.next(), true);
                due("word " + k, x.word(k), w);
            }
            due("no more", x.next(), false);
        }
    }

    private static void placesFromZeroOn() {
        by("An ENTRY has a KEY, four words a, b, c, d (longs, compared without sign, a first), and a PLACE "
            + "(an int from 0 on).");
        SideLinkTree x = new SideLinkTree();
        due("place 0", x.add(0, 0, 0, 0, 0), 1);
        due("highest place", x.add(-1, -1, -1, -1, MAX), 1);
        due("place -1", x.add(0, 0, 0, 0, -1), -1);
        due("lowest place", x.add(-1, -1, -1, -1, MIN), -1);
        due("has place 0", x.has(0, 0, 0, 0, 0), true);
        due("has highest place", x.has(-1, -1, -1, -1, MAX), true);
        due("entries", x.count(3), 2);
    }

    private static void oneKeyByPlaces() {
        by("Entries are in ORDER by their keys, those of one key by their places.");
        SideLinkTree x = new SideLinkTree();
        due("add", add(x, 5, MAX), 1);
        due("add", add(x, 6, 0), 1);
        due("add", add(x, 5, 0), 1);
        due("add", add(x, 4, MAX), 1);
        due("add", add(x, 5, 1), 1);
        dueNext("lower key, highest place", x, 4, MAX);
        dueNext("place 0", x, 5, 0);
        dueNext("place 1", x, 5, 1);
        dueNext("highest place", x, 5, MAX);
        dueNext("higher key, place 0", x, 6, 0);
        // One key alone is enough to split pages.
        x = new SideLinkTree();
        for (int place = 0; place < 16; place++) {
            due("add", add(x, 9, 15 - place), 1);
        }
        due("pages of one key", row(x, 0), "6 5 5");
        for (int place = 0; place < 16; place++) {
            dueNext("one key", x, 9, place);
        }
    }

    private static void eachEntryOnce() {
        by("A tree has each entry once.");
        SideLinkTree x = rising(11);
        String state = state(x);
        for (int i = 1; i <= 11; i++) {
            due("add again", add(x, i, 0), 0);
        }
        due("state", state(x), state);
        x = withWordLacking();
        for (int i = 1; i <= 15; i++) {
            due("again behind a cut", add(x, i, 0), 0);
        }
        due("entries", x.count(3), 15);
        due("pages", row(x, 0), "5 5 5");
        dueAllFound("once each", x, 15);
    }

    private static void sixtyPages() {
        by("There are 60 PAGES; the lowest that is not taken is taken first.");
        SideLinkTree x = rising(250);
        due("pages", x.count(1), 59);
        due("the 60th", add(x, 251, 0), 1);
        due("pages", x.count(1), 60);
        addAll(x, 252, 255);
        due("no 61st", add(x, 256, 0), -1);
        due("pages", x.count(1), 60);
        due("levels", x.count(0), 3);
        due("pages of level 0", x.level(0, 0), 50);
        due("pages of level 1", row(x, 1), "5 5 5 5 5 5 5 5 10");
        due("pages of level 2", row(x, 2), "9");
    }

    private static void noneToTheRight() {
        by("A page has a LEVEL, a LOW, and the page to its RIGHT, or none.");
        SideLinkTree x = rising(16);
        x.seek(0, 0, 0, 16);
        dueNext("the last one", x, 16, 0);
        due("no page to the right", x.next(), false);
        for (int i = 11; i <= 16; i++) {
            due("remove", remove(x, i, 0), 1);
        }
        due("the rightmost page is empty", row(x, 0), "5 5 0");
        x.seek(0, 0, 0, 11);
        due("nothing in it, none to its right", x.next(), false);
        x.seek(0, 0, 0, 10);
        dueNext("before it", x, 10, 0);
        due("nothing behind", x.next(), false);
    }

    private static void lowOfTheFirstPage() {
        by("The pages of a level are in a row from left to right, with rising lows; the low of the first one "
            + "lies before all entries.");
        SideLinkTree x = new SideLinkTree();
        for (int i = 100; i > 45; i--) {
            due("add", add(x, i, 0), 1);
        }
        due("the lowest of all keys and places", add(x, 0, 0), 1);
        due("is in the first page", row(x, 0), "6 5 5 5 5 5 5 5 5 5 5");
        due("whose mark is the first of three levels", row(x, 1) + ", " + row(x, 2), "6 5, 2");
        due("has", has(x, 0, 0), true);
        due("remove", remove(x, 0, 0), 1);
        x.first();
        dueNext("rising", x, 46, 0);
        for (int i = 47; i <= 100; i++) {
            due("next", x.next(), true);
            due("rising", x.word(3), i);
        }
    }

    private static void lowIncludedNextLowNot() {
        by("A page is IN CHARGE of what is from its low on, up to the low of the one to its right, that one not "
            + "included.");
        SideLinkTree x = new SideLinkTree();
        for (int place = 0; place <= 20; place += 2) {
            due("add", add(x, 5, place), 1);
        }
        due("the low is place 10", row(x, 0), "5 6");
        due("remove the low", remove(x, 5, 10), 1);
        due("right before the low", add(x, 5, 9), 1);
        due("left", row(x, 0), "6 5");
        due("at the low", add(x, 5, 10), 1);
        due("right", row(x, 0), "6 6");
        due("right behind the low", add(x, 5, 11), 1);
        due("right", row(x, 0), "6 7");
        due("a lower key with the highest place", add(x, 4, MAX), 1);
        due("left", row(x, 0), "7 7");
        due("a higher key with place 0", add(x, 6, 0), 1);
        due("right", row(x, 0), "7 8");
        due("found left of the low", has(x, 5, 9), true);
        due("found at the low", has(x, 5, 10), true);
        // A page without a mark is in charge from its low on too, be that an entry of it or not.
        x = withWordLacking();
        due("remove the low", remove(x, 11, 0), 1);
        due("right before the low", add(x, 10, MAX), 1);
        due("left", row(x, 0), "5 6 4");
        due("at the low", add(x, 11, 0), 1);
        due("right", row(x, 0), "5 6 5");
    }

    private static void inChargeBelowMarks() {
        by("A page is IN CHARGE of what is from its low on, up to the low of the one to its right, that one not "
            + "included.");
        SideLinkTree x = rising(56);
        due("pages of marks", row(x, 1), "5 6");
        // The second page of marks has the low 26, which is a low of level 0 too.
        due("remove", remove(x, 26, 0), 1);
        due("right before the low", add(x, 25, MAX), 1);
        due("left", x.level(0, 2 + 4), 6);
        due("at the low", add(x, 26, 0), 1);
        due("right", x.level(0, 2 + 5), 5);
        due("has", has(x, 26, 0), true);
        due("has", has(x, 25, MAX), true);
    }

    private static void marksCount() {
        by("a page of a higher level has MARKS, lows of pages of the level below, each with its page; a mark counts "
            + "as an entry here.");
        SideLinkTree x = rising(55);
        due("ten marks do not split the root", row(x, 1), "10");
        due("levels", x.count(0), 2);
        due("add", add(x, 56, 0), 1);
        due("an eleventh does", row(x, 1), "5 6");
        due("levels", x.count(0), 3);
        due("marks are no entries of the tree", x.count(3), 56);
        due("a low that is no entry any more", remove(x, 6, 0), 1);
        due("is not there", has(x, 6, 0), false);
        due("nor gone to", x.level(1, 1), 11);
        x.seek(0, 0, 0, 6);
        dueNext("past the low", x, 7, 0);
        x = rising(80);
        due("ten marks in a page", row(x, 1), "5 10");
        due("add", add(x, 81, 0), 1);
        due("eleven", row(x, 1), "5 5 6");
    }

    private static void rootIsTheOnlyOne() {
        by("The ROOT is one page, the only one of the highest level.");
        SideLinkTree x = new SideLinkTree();
        due("at first", x.level(x.count(0) - 1, 0), 1);
        for (int i = 1; i <= 120; i++) {
            due("add", add(x, i, 0), 1);
            due("pages of the highest level", x.level(x.count(0) - 1, 0), 1);
        }
        x = rising(10);
        cutAdd(x, 144, 11, 0);
        due("right before it is of the next level", x.level(x.count(0) - 1, 0), 1);
        cutAdd(x, 145, 11, 0);
        due("right behind", x.level(x.count(0) - 1, 0), 1);
        due("levels", x.count(0), 2);
    }

    private static void rootAtFirst() {
        by("At first it is of level 0 without entries (three words were set for it).");
        SideLinkTree x = new SideLinkTree();
        due("levels, pages, words, entries", counts(x), "1 1 3 0");
        due("row", row(x, 0), "0");
        due("no level 1", x.level(1, 0), -1);
    }

    private static void rootWithTen() {
        by("To PUT an entry into a level: if the page in charge has 10, it is SPLIT first: if it is the root, its "
            + "first five go to a page A, the others to a page B (A is taken first), both of its level, A with the "
            + "low of all, B with the lowest of its five as low, B to the right of A; then the root is of the next "
            + "level, with two marks, those of A and B.");
        SideLinkTree x = rising(9);
        due("the tenth", add(x, 10, 0), 1);
        due("no split with 9", row(x, 0), "10");
        due("remove", remove(x, 10, 0), 1);
        due("the tenth again", add(x, 10, 0), 1);
        due("no split", counts(x), "1 1 125 10");
        due("the eleventh", add(x, 11, 0), 1);
        due("split with 10", row(x, 0) + ", " + row(x, 1), "5 6, 2");
        due("levels, pages, words, entries", counts(x), "2 3 281 11");
        due("below the low of B", add(x, 5, 1), 1);
        due("into A", row(x, 0), "6 6");
        due("remove the low of B", remove(x, 6, 0), 1);
        due("again", add(x, 6, 0), 1);
        due("into B", row(x, 0), "6 6");
        due("lowest of all", add(x, 0, 0), 1);
        due("into A", row(x, 0), "7 6");
        dueNext("A before B", x, 0, 0);
    }

    private static void pageWithTen() {
        by("If it is another one, its five highest go to a new page, to its right, with the lowest of them as low; "
            + "then a mark of that is put into the next level likewise.");
        SideLinkTree x = rising(14);
        due("the tenth of its page", add(x, 15, 0), 1);
        due("no split with 9", row(x, 0) + ", " + row(x, 1), "5 10, 2");
        due("again, which is no put", add(x, 15, 0), 0);
        due("no split", row(x, 0) + ", " + row(x, 1), "5 10, 2");
        due("the eleventh", add(x, 16, 0), 1);
        due("split with 10", row(x, 0) + ", " + row(x, 1), "5 5 6, 3");
        due("below the new low", add(x, 10, 1), 1);
        due("left", row(x, 0), "5 6 6");
        due("remove the new low", remove(x, 11, 0), 1);
        due("left as it was", row(x, 0), "5 6 5");
        due("the new low again", add(x, 11, 0), 1);
        due("right", row(x, 0), "5 6 6");
        // A page that has one to its right: the new one comes between the two.
        for (int place = 2; place <= 6; place++) {
            due("add", add(x, 8, place), 1);
        }
        due("split in the middle", row(x, 0) + ", " + row(x, 1), "5 5 6 6, 4");
        dueNext("from the left", x, 1, 0);
        x.seek(0, 0, 0, 10);
        dueNext("into the new one", x, 10, 0);
        dueNext("in it", x, 10, 1);
        dueNext("and on to the one behind", x, 11, 0);
        // One that has no mark, because of a cut, is split as any other: the new one gets a mark.
        x = withWordLacking();
        addAll(x, 16, 20);
        due("ten without a mark", row(x, 0) + ", " + row(x, 1), "5 5 10, 2");
        due("split", add(x, 21, 0), 1);
        due("its new page has one", row(x, 0) + ", " + row(x, 1), "5 5 5 6, 3");
        dueAllFound("all", x, 21);
    }

    private static void intoTheHalfInCharge() {
        by("Then the entry comes into the page that is in charge of it now.");
        int[] d = {0, 5, 5, 6, 11};
        int[] place = {0, 1, MAX, 1, 0};
        String[] rows = {"6 5", "6 5", "6 5", "5 6", "5 6"};
        for (int i = 0; i < d.length; i++) {
            SideLinkTree x = rising(10);
            due("add", add(x, d[i], place[i]), 1);
            due("halves of the root with " + d[i], row(x, 0), rows[i]);
            due("has", has(x, d[i], place[i]), true);
        }
        d = new int[] {6, 10, 10, 11, 16};
        place = new int[] {1, 1, MAX, 1, 0};
        rows = new String[] {"5 6 5", "5 6 5", "5 6 5", "5 5 6", "5 5 6"};
        for (int i = 0; i < d.length; i++) {
            SideLinkTree x = rising(15);
            due("add", add(x, d[i], place[i]), 1);
            due("halves of a page with " + d[i], row(x, 0), rows[i]);
            due("has", has(x, d[i], place[i]), true);
        }
    }

    private static void tenWordsAndOne() {
        by("A new entry (or mark) in a page takes 10 and one more, by which it is there.");
        SideLinkTree x = new SideLinkTree();
        cutAdd(x, 10, 1, 0);
        due("ten", counts(x), "1 1 13 0");
        due("not there", has(x, 1, 0), false);
        due("charge", x.charge(11), true);
        due("eleven", add(x, 1, 0), 1);
        due("eleven", counts(x), "1 1 24 1");
        due("there", has(x, 1, 0), true);
        x = rising(15);
        cutAdd(x, 64 + 10, 16, 0);
        due("ten of the mark", x.level(1, 1), 2);
        x = rising(15);
        cutAdd(x, 64 + 11, 16, 0);
        due("eleven of the mark", x.level(1, 1), 3);
        due("entry not there", x.count(3), 15);
        x = rising(15);
        cutAdd(x, 64 + 11 + 10, 16, 0);
        due("ten of the entry", x.count(3), 15);
        x = rising(15);
        due("charge", x.charge(64 + 11 + 11), true);
        due("all words", add(x, 16, 0), 1);
    }

    private static final String PAGE_SPLIT = "A page that is split, not the root: 62 for the new page, one by which "
        + "that is to the right, one behind that (if this one was cut, it is made up for by the first word of the "
        + "next put into the page, one more, or by a removal from it).";

    private static void wordsOfAPageSplit() {
        by(PAGE_SPLIT);
        int[] charges = {61, 62, 63, 64};
        String[] rows = {"5 10", "5 10", "5 5 5", "5 5 5"};
        for (int i = 0; i < charges.length; i++) {
            SideLinkTree x = rising(15);
            int words = x.count(2);
            cutAdd(x, charges[i], 16, 0);
            due("row behind " + charges[i], row(x, 0), rows[i]);
            due("marks", row(x, 1), "2");
            due("words", x.count(2), words + charges[i]);
            due("entries", x.count(3), 15);
            due("pages", x.count(1), 4);
        }
    }

    private static void lackingWordByAPut() {
        by(PAGE_SPLIT);
        SideLinkTree x = withWordLacking();
        int words = x.count(2);
        due("into the page to the left", add(x, 1, 1), 1);
        due("into the page to the right", add(x, 15, 1), 1);
        due("no word more for these", x.count(2), words + 22);
        due("there already, which is no put", add(x, 10, 0), 0);
        cutAdd(x, 0, 10, 1);
        due("cut before the first word", x.count(2), words + 22);
        cutAdd(x, 1, 10, 1);
        due("cut behind the first word", x.count(2), words + 23);
        due("it was made up for", add(x, 10, 1), 1);
        due("eleven", x.count(2), words + 34);
        due("row", row(x, 0), "6 6 6");
        x = withWordLacking();
        words = x.count(2);
        due("put", add(x, 10, 1), 1);
        due("twelve", x.count(2), words + 12);
        due("put", add(x, 10, 2), 1);
        due("eleven again", x.count(2), words + 23);
        x = withWordLacking();
        words = x.count(2);
        cutAdd(x, 11, 10, 1);
        due("eleven do not suffice", x.count(2), words + 11);
        due("not there", has(x, 10, 1), false);
        x = withWordLacking();
        due("charge", x.charge(12), true);
        due("twelve do", add(x, 10, 1), 1);
        x = rising(15);
        cutAdd(x, 64, 16, 0);
        words = x.count(2);
        due("nothing lacks behind 64", add(x, 10, 1), 1);
        due("eleven", x.count(2), words + 11);
        x = rising(15);
        cutAdd(x, 62, 16, 0);
        words = x.count(2);
        due("nothing lacks behind 62", add(x, 16, 0), 1);
        due("a whole split", x.count(2), words + 64 + 11 + 11);
    }

    private static void lackingWordByARemoval() {
        by(PAGE_SPLIT);
        SideLinkTree x = withWordLacking();
        int words = x.count(2);
        due("from the page to the right", remove(x, 11, 0), 1);
        due("not there", remove(x, 10, 1), 0);
        due("charge", x.charge(0), true);
        due("cut", remove(x, 10, 0), -2);
        due("put", add(x, 10, 1), 1);
        due("none of these made up for it", x.count(2), words + 1 + 12);
        x = withWordLacking();
        words = x.count(2);
        due("removal", remove(x, 6, 0), 1);
        due("one word", x.count(2), words + 1);
        due("put", add(x, 6, 0), 1);
        due("made up for", x.count(2), words + 12);
        due("row", row(x, 0), "5 5 5");
    }

    private static void lackingWordOfMarks() {
        by(PAGE_SPLIT);
        SideLinkTree x = rising(80);
        cutAdd(x, 64 + 63, 81, 0);
        due("page of marks split", row(x, 1) + ", " + row(x, 2), "5 5 5, 2");
        for (int place = 1; place <= 5; place++) {
            due("add", add(x, 26, place), 1);
        }
        int words = x.count(2);
        due("a mark into that page", add(x, 26, 6), 1);
        due("one word more", x.count(2), words + 64 + 12 + 11);
        due("row", row(x, 1), "5 6 5");
        for (int place = 1; place <= 5; place++) {
            due("add", add(x, 41, place), 1);
        }
        words = x.count(2);
        due("a second mark", add(x, 41, 6), 1);
        due("no word more", x.count(2), words + 64 + 11 + 11);
    }

    private static void wordsOfARootSplit() {
        by("The root: 62 for each of the two, 20, and one by which it is of the next level.");
        int[] charges = {62, 124, 144, 145};
        for (int n : charges) {
            SideLinkTree x = rising(10);
            cutAdd(x, n, 11, 0);
            due("words, cut behind " + n, x.count(2), 113 + n);
            due("levels", x.count(0), n < 145 ? 1 : 2);
            due("row", row(x, 0), n < 145 ? "10" : "5 5");
            due("row of marks", row(x, 1), n < 145 ? "" : "2");
        }
        SideLinkTree x = rising(10);
        due("charge", x.charge(145 + 11), true);
        due("all words", add(x, 11, 0), 1);
        due("words", x.count(2), 113 + 145 + 11);
        x = rising(55);
        int words = x.count(2);
        cutAdd(x, 64 + 144, 56, 0);
        due("root of marks, as before", x.count(0) + ", " + row(x, 1), "2, 10");
        x = rising(55);
        cutAdd(x, 64 + 145, 56, 0);
        due("root of marks, as behind", x.count(0) + ", " + row(x, 1), "3, 5 5");
        due("words", x.count(2), words + 64 + 145);
    }

    private static void removalTakesOne() {
        by("A removal takes one.");
        SideLinkTree x = rising(3);
        int words = x.count(2);
        due("charge", x.charge(0), true);
        due("none", remove(x, 3, 0), -2);
        due("words", x.count(2), words);
        due("charge", x.charge(1), true);
        due("one", remove(x, 3, 0), 1);
        due("words", x.count(2), words + 1);
        due("not there takes none", remove(x, 3, 0), 0);
        due("words", x.count(2), words + 1);
        due("nor does the charge that is spent cut that", remove(x, 9, 0), 0);
        due("the next word is cut", remove(x, 2, 0), -2);
    }

    private static void pagesBeforeTheFirstSet() {
        by("The pages that an add needs are taken before its first set; if there are not as many, it is refused.");
        SideLinkTree x = rising(10);
        cutAdd(x, 0, 11, 0);
        due("two for the root, no word", counts(x), "1 3 113 10");
        x = rising(15);
        int words = x.count(2);
        cutAdd(x, 0, 16, 0);
        due("one for a page, no word", counts(x), "2 4 " + words + " 15");
        x = rising(55);
        words = x.count(2);
        cutAdd(x, 0, 56, 0);
        due("three for a page and a root of marks", counts(x), "2 14 " + words + " 55");
        x = rising(80);
        words = x.count(2);
        int pages = x.count(1);
        cutAdd(x, 0, 81, 0);
        due("two for two pages", counts(x), "3 " + (pages + 2) + " " + words + " 80");
        x = rising(9);
        cutAdd(x, 0, 10, 0);
        due("none if there is room", counts(x), "1 1 102 9");
    }

    private static void asManyPagesOrRefused() {
        by("The pages that an add needs are taken before its first set; if there are not as many, it is refused.");
        SideLinkTree x = rootWithPagesLeft(1);
        due("one left", x.count(1), 59);
        due("two needed", add(x, 11, 0), -1);
        due("taken", x.count(1), 59);
        x = rootWithPagesLeft(3);
        due("three left", x.count(1), 57);
        due("two needed", add(x, 11, 0), 1);
        due("taken", x.count(1), 59);
        for (int left = 1; left <= 4; left++) {
            x = marksWithPagesLeft(left);
            due("taken with " + left + " left", x.count(1), 60 - left);
            String state = state(x);
            due("three needed, " + left + " left", add(x, 56, 0), left < 3 ? -1 : 1);
            due("taken", x.count(1), left < 3 ? 60 - left : 63 - left);
            due("levels", x.count(0), left < 3 ? 2 : 3);
            if (left < 3) {
                due("all as before", state(x), state);
            }
        }
        x = rising(15);
        for (int i = 57; i > 1; i--) {
            cutAdd(x, 0, 16, 0);
        }
        due("one left", x.count(1), 59);
        due("one needed", add(x, 16, 0), 1);
        due("taken", x.count(1), 60);
        addAll(x, 17, 20);
        due("none left, one needed", add(x, 21, 0), -1);
        due("none left, none needed", add(x, 1, 1), 1);
    }

    private static final String CHARGED = "After charge(n) n more words can be set; the next one is not, nor any "
        + "more of that call; what was set stays, pages that were taken too, and there is no charge any more.";

    private static void chargeIsSpent() {
        by(CHARGED);
        SideLinkTree x = new SideLinkTree();
        due("charge", x.charge(22), true);
        due("eleven of 22", add(x, 1, 0), 1);
        due("22 of 22", add(x, 2, 0), 1);
        due("words", x.count(2), 25);
        due("a call that sets none", add(x, 2, 0), 0);
        due("the next word", add(x, 3, 0), -2);
        due("words", x.count(2), 25);
        due("no charge any more", add(x, 3, 0), 1);
        addAll(x, 4, 10);
        cutAdd(x, 100, 11, 0);
        due("what was set stays, pages too", counts(x), "1 3 213 10");
        cutAdd(x, 100, 11, 0);
        due("and those of a second call", counts(x), "1 5 313 10");
        due("no charge any more", add(x, 11, 0), 1);
        due("its pages are others", counts(x), "2 7 469 11");
        due("charge", x.charge(5), true);
        due("a removal of the charge", remove(x, 11, 0), 1);
        due("four left", add(x, 11, 0), -2);
        due("words", x.count(2), 469 + 5);
    }

    private static void noneOfThatCall() {
        by(CHARGED);
        // Were only the one word left out, the split or the entry would come all the same.
        SideLinkTree x = rising(15);
        int words = x.count(2);
        cutAdd(x, 5, 16, 0);
        due("words", x.count(2), words + 5);
        due("row", row(x, 0), "5 10");
        due("not there", has(x, 16, 0), false);
        x = rising(15);
        cutAdd(x, 70, 16, 0);
        due("words", x.count(2), words + 70);
        due("no mark, no entry", row(x, 0) + ", " + row(x, 1), "5 5 5, 2");
        due("not there", has(x, 16, 0), false);
        due("again", add(x, 16, 0), 1);
        due("words of the entry alone", x.count(2), words + 70 + 11);
        due("the mark does not come later", row(x, 0) + ", " + row(x, 1), "5 5 6, 2");
    }

    private static void splitIsCutInLevels() {
        by("So of a split that is cut, all is as before it, or as behind it but for what is put into the next "
            + "level, and so on.");
        int[] charges = {64 + 62, 64 + 63, 64 + 64 + 10, 64 + 64 + 11, 64 + 64 + 11 + 10, 64 + 64 + 11 + 11};
        String[] marks = {"5 10, 2", "5 5 5, 2", "5 5 5, 2", "5 5 5, 3", "5 5 5, 3", "5 5 6, 3"};
        for (int i = 0; i < charges.length; i++) {
            SideLinkTree x = rising(80);
            cutAdd(x, charges[i], 81, 0);
            due("marks, cut behind " + charges[i], row(x, 1) + ", " + row(x, 2), marks[i]);
            due("pages of level 0", x.level(0, 0), 16);
            due("entries", x.count(3), 80);
        }
        SideLinkTree x = rising(80);
        cutAdd(x, 62, 81, 0);
        due("level 0 as before", x.level(0, 0), 15);
        due("its last page", x.level(0, 2 + 14), 10);
        x = rising(80);
        cutAdd(x, 63, 81, 0);
        due("level 0 as behind", x.level(0, 0), 16);
        due("its last page", x.level(0, 2 + 15), 5);
        due("all else as before", row(x, 1) + ", " + row(x, 2), "5 10, 2");
    }

    private static void cursorInATreeThatChanges() {
        by("The CURSOR stands before or behind all, or at a place between entries; going on, it comes to the next "
            + "entry of the tree as it is then.");
        SideLinkTree x = rising(10);
        x.seek(0, 0, 0, 5);
        dueNext("to 5", x, 5, 0);
        due("right behind the cursor", add(x, 5, 1), 1);
        dueNext("the new one", x, 5, 1);
        due("the next one goes", remove(x, 6, 0), 1);
        dueNext("the one behind", x, 7, 0);
        due("the one before the cursor goes", remove(x, 7, 0), 1);
        dueBack("the one before that", x, 5, 1);
        due("the one behind the cursor goes", remove(x, 5, 1), 1);
        due("and comes again", add(x, 5, 1), 1);
        dueNext("it is behind still", x, 5, 1);
        x.first();
        due("before all", add(x, 0, 0), 1);
        due("none before", x.back(), false);
        x.last();
        due("behind all", x.add(-1, -1, -1, -1, MAX), 1);
        due("none behind", x.next(), false);
        x = rising(10);
        x.seek(0, 0, 0, 6);
        due("a split under the cursor", add(x, 11, 0), 1);
        dueNext("the low of the new page", x, 6, 0);
        x.seek(0, 0, 0, 6);
        dueBack("the last of the page before", x, 5, 0);
    }

    private static void handAtFirst() {
        by("There is an entry IN HAND, at first all 0.");
        SideLinkTree x = new SideLinkTree();
        due("hand", hand(x), "0 0 0 0 0");
        due("next to none", x.next(), false);
        due("back to none", x.back(), false);
        due("add", x.add(1, 2, 3, 4, 5), 1);
        due("add again", x.add(1, 2, 3, 4, 5), 0);
        due("has", x.has(1, 2, 3, 4, 5), true);
        due("remove", x.remove(1, 2, 3, 4, 5), 1);
        x.seek(1, 2, 3, 4);
        x.first();
        x.last();
        due("only next and back bring one to hand", hand(x), "0 0 0 0 0");
        due("it is in the hand only", x.has(0, 0, 0, 0, 0), false);
    }

    private static void ownMemory() {
        by("All memory is the class's own.");
        SideLinkTree x = rising(11);
        SideLinkTree y = new SideLinkTree();
        due("another object is not full", counts(y), "1 1 3 0");
        due("charge", y.charge(0), true);
        due("one's charge is not the other's", add(x, 12, 0), 1);
        due("one's entries are not the other's", add(y, 1, 0), -2);
        y.clear();
        due("one's clear is not the other's", counts(x), "2 3 280 12");
    }

    private static void refusedChangesNothing() {
        by("A call that is refused changes nothing.");
        SideLinkTree x = rootWithPagesLeft(1);
        x.seek(0, 0, 0, 4);
        dueNext("cursor behind 4", x, 4, 0);
        due("charge", x.charge(12), true);
        String state = state(x);
        due("pages do not suffice", add(x, 11, 0), -1);
        due("place below 0", add(x, 4, -1), -1);
        due("lowest place", add(x, 4, MIN), -1);
        due("charge below 0", x.charge(-1), false);
        due("charge above 999", x.charge(1000), false);
        due("state", state(x), state);
        due("not there", has(x, 11, 0), false);
        dueNext("cursor", x, 5, 0);
        due("the charge has its 12 words: one", remove(x, 10, 0), 1);
        due("the charge has its 12 words: eleven", add(x, 10, 0), 1);
        due("and none more", remove(x, 10, 0), -2);
        // Without a charge there is none behind a refused one.
        due("charge above 999", x.charge(1000), false);
        due("charge below 0", x.charge(-1), false);
        due("no charge", remove(x, 10, 0), 1);
    }

    // ---- Promises

    private static void promise1() {
        by("A tree without entries; the cursor stands before all.");
        SideLinkTree x = new SideLinkTree();
        due("entries", x.count(3), 0);
        due("next", x.next(), false);
        due("back", x.back(), false);
        due("has the lowest", x.has(0, 0, 0, 0, 0), false);
        due("has the highest", x.has(-1, -1, -1, -1, MAX), false);
        due("remove", x.remove(0, 0, 0, 0, 0), 0);
        due("add the lowest", x.add(0, 0, 0, 0, 0), 1);
        due("none before the cursor", x.back(), false);
        dueNext("the lowest is behind it", x, 0, 0);
    }

    private static void promise2() {
        by("An entry is added: 1; 0 if it is there; -1, refused, if the pages do not suffice, or place is below 0; "
            + "-2 if it was cut (the entry is there or not, as said).");
        SideLinkTree x = rootWithPagesLeft(1);
        due("there", add(x, 10, 0), 0);
        due("pages do not suffice", add(x, 10, 1), -1);
        due("place below 0", add(x, 10, -1), -1);
        due("lowest place", add(x, 10, MIN), -1);
        due("charge", x.charge(0), true);
        due("there, and no word left", add(x, 10, 0), 0);
        due("no pages, and no word left", add(x, 10, 1), -1);
        due("place below 0, and no word left", add(x, 10, -1), -1);
        due("remove is cut", remove(x, 10, 0), -2);
        due("remove", remove(x, 10, 0), 1);
        cutAdd(x, 10, 10, 1);
        due("not there", has(x, 10, 1), false);
        due("room again", add(x, 10, 1), 1);
        due("there", has(x, 10, 1), true);
        due("full again", add(x, 10, 0), -1);
    }

    private static void promise3() {
        by("An entry is removed: 1; 0 if it is not there; -2 if it was cut (it is there).");
        SideLinkTree x = new SideLinkTree();
        due("of none", remove(x, 0, 0), 0);
        due("lowest place", remove(x, 0, MIN), 0);
        due("place below 0", remove(x, 0, -1), 0);
        addAll(x, 1, 11);
        due("before all", remove(x, 0, 0), 0);
        due("place below 0", remove(x, 0, -1), 0);
        due("place below that of the lowest", remove(x, 1, -1), 0);
        due("behind all", remove(x, 12, 0), 0);
        due("another place", remove(x, 6, 1), 0);
        due("highest place", remove(x, 6, MAX), 0);
        due("entries", x.count(3), 11);
        due("charge", x.charge(0), true);
        due("cut", remove(x, 6, 0), -2);
        due("it is there", has(x, 6, 0), true);
        due("entries", x.count(3), 11);
        due("lowest", remove(x, 1, 0), 1);
        due("highest", remove(x, 11, 0), 1);
        due("a low", remove(x, 6, 0), 1);
        due("again", remove(x, 6, 0), 0);
        due("entries", x.count(3), 8);
        due("add the low again", add(x, 6, 0), 1);
        due("and remove it again", remove(x, 6, 0), 1);
    }

    private static void promise3PagesStay() {
        by("Pages stay.");
        SideLinkTree x = rising(56);
        for (int i = 1; i <= 56; i++) {
            due("remove", remove(x, i, 0), 1);
        }
        due("levels", x.count(0), 3);
        due("pages", x.count(1), 14);
        due("entries", x.count(3), 0);
        due("row 0", row(x, 0), "0 0 0 0 0 0 0 0 0 0 0");
        due("row 1", row(x, 1), "5 6");
        x.first();
        due("through empty pages", x.next(), false);
        x.last();
        due("back through empty pages", x.back(), false);
        due("add", add(x, 30, 0), 1);
        due("the lows stay", row(x, 0), "0 0 0 0 0 1 0 0 0 0 0");
        x.first();
        dueNext("past empty pages", x, 30, 0);
        x.last();
        dueBack("past empty pages", x, 30, 0);
    }

    private static void promise4() {
        by("Whether an entry is there.");
        SideLinkTree x = new SideLinkTree();
        due("of none", x.has(0, 0, 0, 0, 0), false);
        due("the low of all is no entry", x.has(0, 0, 0, 0, -1), false);
        due("add", x.add(1, 1, 1, 1, 1), 1);
        due("it", x.has(1, 1, 1, 1, 1), true);
        for (int i = 0; i <= 2; i += 2) {
            due("another a", x.has(i, 1, 1, 1, 1), false);
            due("another b", x.has(1, i, 1, 1, 1), false);
            due("another c", x.has(1, 1, i, 1, 1), false);
            due("another d", x.has(1, 1, 1, i, 1), false);
            due("another place", x.has(1, 1, 1, 1, i), false);
        }
        due("place below 0", x.has(1, 1, 1, 1, -1), false);
        due("lowest place", x.has(1, 1, 1, 1, MIN), false);
        due("highest place", x.has(1, 1, 1, 1, MAX), false);
        due("other half of a word", x.has(1L << 32 | 1, 1, 1, 1, 1), false);
        due("remove", x.remove(1, 1, 1, 1, 1), 1);
        due("gone", x.has(1, 1, 1, 1, 1), false);
    }

    private static void promise5() {
        by("The cursor stands before all entries with this key, and behind all with lower ones.");
        SideLinkTree x = new SideLinkTree();
        due("add", add(x, 4, MAX), 1);
        due("add", add(x, 5, 0), 1);
        due("add", add(x, 5, MAX), 1);
        due("add", add(x, 6, 0), 1);
        x.seek(0, 0, 0, 5);
        dueNext("before the lowest place", x, 5, 0);
        x.seek(0, 0, 0, 5);
        dueBack("behind the highest of the key below", x, 4, MAX);
        x.seek(0, 0, 0, 4);
        due("behind none", x.back(), false);
        x.seek(0, 0, 0, 0);
        dueNext("lowest key", x, 4, MAX);
        x.seek(0, 0, 0, 7);
        due("before none", x.next(), false);
        x.seek(-1, -1, -1, -1);
        dueBack("highest key", x, 6, 0);
        due("add", x.add(-1, -1, -1, -1, 0), 1);
        x.seek(-1, -1, -1, -1);
        due("before those of the highest key", x.next(), true);
        due("hand", hand(x), "-1 -1 -1 -1 0");
        x.seek(0, 0, 0, 5);
        due("remove", remove(x, 5, 0), 1);
        due("add", add(x, 5, 1), 1);
        dueNext("before what comes later with this key", x, 5, 1);
        SideLinkTree none = new SideLinkTree();
        none.seek(0, 0, 0, 5);
        due("of none", none.next() || none.back(), false);
    }

    private static void promise6() {
        by("The cursor stands before all.");
        SideLinkTree x = new SideLinkTree();
        x.first();
        due("of none", x.back(), false);
        due("of none", x.next(), false);
        due("add", x.add(0, 0, 0, 0, 0), 1);
        due("before the lowest of all", x.back(), false);
        dueNext("the lowest of all", x, 0, 0);
        x.first();
        due("again", x.back(), false);
        dueNext("the same", x, 0, 0);
    }

    private static void promise7() {
        by("The cursor stands behind all.");
        SideLinkTree x = new SideLinkTree();
        x.last();
        due("of none", x.next(), false);
        due("of none", x.back(), false);
        due("add", x.add(-1, -1, -1, -1, MAX), 1);
        due("behind the highest of all", x.next(), false);
        due("the highest of all", x.back(), true);
        due("hand", hand(x), "-1 -1 -1 -1 " + MAX);
        due("before it", x.back(), false);
        x.last();
        due("again", x.next(), false);
        due("back", x.back(), true);
    }

    private static void promise8() {
        by("The next entry behind the cursor comes to hand, and the cursor stands behind it: true; false, changing "
            + "nothing, if there is none.");
        SideLinkTree x = rising(2);
        dueNext("first", x, 1, 0);
        dueNext("last", x, 2, 0);
        String state = state(x);
        due("none", x.next(), false);
        due("none", x.next(), false);
        due("state", state(x), state);
        dueBack("the cursor did not move", x, 2, 0);
        dueNext("behind it again", x, 2, 0);
        due("none", x.next(), false);
        due("one behind it comes", add(x, 2, 1), 1);
        dueNext("the cursor is not behind all", x, 2, 1);
        due("none", x.next(), false);
        due("remove", remove(x, 2, 1), 1);
        due("none", x.next(), false);
        due("hand stays", hand(x), "0 0 0 2 1");
        x = new SideLinkTree();
        due("of none", x.next(), false);
        due("charge", x.charge(0), true);
        due("sets no word", x.next(), false);
        due("charge is there", add(x, 1, 0), -2);
    }

    private static void promise9() {
        by("The entry before the cursor comes to hand, and the cursor stands before it: true; false likewise.");
        SideLinkTree x = rising(2);
        x.last();
        dueBack("last", x, 2, 0);
        dueBack("first", x, 1, 0);
        String state = state(x);
        due("none", x.back(), false);
        due("none", x.back(), false);
        due("state", state(x), state);
        dueNext("the cursor did not move", x, 1, 0);
        dueBack("before it again", x, 1, 0);
        due("none", x.back(), false);
        due("one before it comes", add(x, 0, MAX), 1);
        dueBack("the cursor is not before all", x, 0, MAX);
        due("none", x.back(), false);
        due("remove", remove(x, 0, MAX), 1);
        due("none", x.back(), false);
        due("hand stays", hand(x), "0 0 0 0 " + MAX);
        x = rising(11);
        x.seek(0, 0, 0, 6);
        dueBack("from a page to the one on its left", x, 5, 0);
    }

    private static void promise10() {
        by("Of the entry in hand: word k, 0 .. 3, of its key; 0 for another k.");
        SideLinkTree x = new SideLinkTree();
        due("add", x.add(11, Long.MIN_VALUE, Long.MAX_VALUE, -1, 15), 1);
        due("next", x.next(), true);
        due("word 0", x.word(0), 11);
        due("word 1", x.word(1), Long.MIN_VALUE);
        due("word 2", x.word(2), Long.MAX_VALUE);
        due("word 3", x.word(3), -1);
        int[] others = {-1, 4, 5, 256, -4, MIN, MIN + 1, MAX};
        for (int k : others) {
            due("word " + k, x.word(k), 0);
        }
    }

    private static void promise11() {
        by("The place of the entry in hand.");
        SideLinkTree x = new SideLinkTree();
        due("at first", x.place(), 0);
        due("add", add(x, 1, 0), 1);
        due("add", add(x, 1, MAX), 1);
        due("next", x.next(), true);
        due("lowest place", x.place(), 0);
        due("next", x.next(), true);
        due("highest place", x.place(), MAX);
        due("remove", remove(x, 1, MAX), 1);
        due("in hand still", x.place(), MAX);
    }

    private static void promise12() {
        by("All pages are given back, and there is a new tree without entries, the root in page 0 (three words more; "
            + "a charge stays, and does not count for them); the cursor stands before all, the entry in hand stays.");
        SideLinkTree x = new SideLinkTree();
        x.clear();
        due("of none", counts(x), "1 1 6 0");
        x = rising(255);
        due("full", add(x, 256, 0), -1);
        x.last();
        due("back", x.back(), true);
        int words = x.count(2);
        due("charge", x.charge(0), true);
        x.clear();
        due("given back", counts(x), "1 1 " + (words + 3) + " 0");
        due("row", row(x, 0), "0");
        due("hand stays", hand(x), "0 0 0 255 0");
        due("gone", has(x, 255, 0), false);
        due("charge stays", add(x, 1, 0), -2);
        due("add", add(x, 0, 0), 1);
        due("before all", x.back(), false);
        dueNext("before all", x, 0, 0);
        // Pages that a cut add took and never used are given back too.
        x = rootWithPagesLeft(1);
        x.clear();
        addAll(x, 1, 16);
        due("as in a new tree", x.count(1) + ", " + row(x, 0) + ", " + row(x, 1), "4, 5 5 6, 3");
        x = rising(56);
        String pages = row(x, 0) + ", " + row(x, 1) + ", " + row(x, 2);
        x.clear();
        addAll(x, 1, 56);
        due("pages that are used again", row(x, 0) + ", " + row(x, 1) + ", " + row(x, 2), pages);
        dueAllFound("pages that are used again", x, 56);
        x = withWordLacking();
        due("charge", x.charge(11), true);
        x.clear();
        due("the whole charge", add(x, 8, 0), 1);
        due("and not more", add(x, 9, 0), -2);
        words = x.count(2);
        addAll(x, 9, 17);
        due("full root", row(x, 0), "10");
        due("add", add(x, 18, 0), 1);
        due("no page lacks a word", add(x, 8, 1), 1);
        due("words", x.count(2), words + 9 * 11 + 145 + 11 + 11);
        x = rising(3);
        x.last();
        x.clear();
        due("add", x.add(-1, -1, -1, -1, MAX), 1);
        due("not behind all any more", x.next(), true);
    }

    private static void promise13() {
        by("n more words can be set.");
        SideLinkTree x = new SideLinkTree();
        due("charge", x.charge(999), true);
        due("a later charge counts alone", x.charge(11), true);
        due("eleven", add(x, 1, 0), 1);
        due("and none more", add(x, 2, 0), -2);
        due("charge", x.charge(0), true);
        due("a later charge counts alone", x.charge(999), true);
        for (int i = 1; i <= 83; i++) {
            due("one word", remove(x, 1, 0), 1);
            due("eleven words", add(x, 1, 0), 1);
        }
        int words = x.count(2);
        due("the 997th word", remove(x, 1, 0), 1);
        due("the 1000th", add(x, 1, 0), -2);
        due("two more were set", x.count(2), words + 3);
        due("charge", x.charge(0), true);
        x.first();
        x.last();
        x.seek(0, 0, 0, 1);
        due("calls that set none", x.next() || x.back() || has(x, 1, 0), false);
        due("count", x.count(3), 0);
        due("none can be set still", add(x, 1, 0), -2);
    }

    private static void promise13Refused() {
        by("False, refused, if n is not 0 .. 999.");
        SideLinkTree x = new SideLinkTree();
        int[] no = {-1, 1000, MIN, MAX, 65536, -999};
        for (int n : no) {
            due("charge " + n, x.charge(n), false);
            due("no charge", add(x, 1, 0), 1);
            due("no charge", remove(x, 1, 0), 1);
            due("charge", x.charge(0), true);
            due("charge " + n, x.charge(n), false);
            due("the charge of before", add(x, 1, 0), -2);
        }
        int[] yes = {0, 1, 998, 999};
        for (int n : yes) {
            due("charge " + n, x.charge(n), true);
        }
    }

    private static void promise14() {
        by("0 how many levels, 1 how many pages are taken, 2 how many words were set in all, 3 how many entries there "
            + "are; -1 for another what.");
        SideLinkTree x = new SideLinkTree();
        due("of a new one", counts(x), "1 1 3 0");
        addAll(x, 1, 11);
        due("of eleven", counts(x), "2 3 269 11");
        int[] others = {-1, 4, 5, MIN, MAX, 256, 65536};
        for (int what : others) {
            due("count " + what, x.count(what), -1);
        }
        x = withWordLacking();
        due("entries that two pages had", x.count(3), 15);
        x.clear();
        due("words in all", x.count(2), 3 + 15 * 11 + 145 + 63 + 3);
    }

    private static void promise15() {
        by("Of a level, 0 the lowest one: how many pages it has (what 0), how many entries or marks they have (1), of "
            + "its page k from the left, from 0 on, how many (2 + k); -1 for no such level or page, or a what below 0.");
        SideLinkTree x = new SideLinkTree();
        due("pages", x.level(0, 0), 1);
        due("entries", x.level(0, 1), 0);
        due("page 0", x.level(0, 2), 0);
        due("page 1", x.level(0, 3), -1);
        addAll(x, 1, 56);
        due("pages of level 0", x.level(0, 0), 11);
        due("entries of level 0", x.level(0, 1), 56);
        due("leftmost page", x.level(0, 2), 5);
        due("rightmost page", x.level(0, 2 + 10), 6);
        due("no page 11", x.level(0, 2 + 11), -1);
        due("pages of level 1", x.level(1, 0), 2);
        due("marks of level 1", x.level(1, 1), 11);
        due("leftmost page of level 1", x.level(1, 2), 5);
        due("rightmost page of level 1", x.level(1, 3), 6);
        due("no page 2 of level 1", x.level(1, 4), -1);
        due("pages of the root's level", x.level(2, 0), 1);
        due("marks of the root", x.level(2, 1), 2);
        due("the root", x.level(2, 2), 2);
        due("none beside the root", x.level(2, 3), -1);
        int[] noLevel = {-1, 3, 4, MIN, MAX};
        int[] noWhat = {-1, -2, MIN, MIN + 1, MIN + 2, MIN + 3, MAX, 62, 63};
        for (int l : noLevel) {
            for (int what = 0; what < 4; what++) {
                due("level " + l + " " + what, x.level(l, what), -1);
            }
            due("level " + l + " -1", x.level(l, -1), -1);
        }
        for (int what : noWhat) {
            for (int l = 0; l < 3; l++) {
                due("level " + l + " " + what, x.level(l, what), -1);
            }
        }
        x = withWordLacking();
        due("entries that two pages had", x.level(0, 1) + ", " + row(x, 0), "15, 5 5 5");
        x = rising(255);
        due("page 49 of a full tree", x.level(0, 2 + 49), 10);
        due("page 50 of a full tree", x.level(0, 2 + 50), -1);
    }

    public static void main(String[] args) {
        foundAtEveryMoment();
        foundBehindManyCuts();
        at512Calls();
        terms();
        promises();
        end();
    }

    private static void terms() {
        wordsWithoutSign();
        placesFromZeroOn();
        oneKeyByPlaces();
        eachEntryOnce();
        sixtyPages();
        noneToTheRight();
        lowOfTheFirstPage();
        lowIncludedNextLowNot();
        inChargeBelowMarks();
        marksCount();
        rootIsTheOnlyOne();
        rootAtFirst();
        rootWithTen();
        pageWithTen();
        intoTheHalfInCharge();
        tenWordsAndOne();
        wordsOfAPageSplit();
        lackingWordByAPut();
        lackingWordByARemoval();
        lackingWordOfMarks();
        wordsOfARootSplit();
        removalTakesOne();
        pagesBeforeTheFirstSet();
        asManyPagesOrRefused();
        chargeIsSpent();
        noneOfThatCall();
        splitIsCutInLevels();
        cursorInATreeThatChanges();
        handAtFirst();
        ownMemory();
        refusedChangesNothing();
    }

    private static void promises() {
        promise1();
        promise2();
        promise3();
        promise3PagesStay();
        promise4();
        promise5();
        promise6();
        promise7();
        promise8();
        promise9();
        promise10();
        promise11();
        promise12();
        promise13();
        promise13Refused();
        promise14();
        promise15();
    }
}
