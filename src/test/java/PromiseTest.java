/** For each promise of the document: ordinary calls, the edges that it names, and wrong inputs. */
public final class PromiseTest {
    private static int wrong = 0;

    private static void due(String what, long got, long want) {
        if (got != want) {
            wrong++;
            System.out.println(what + " answered " + got + ", due is " + want);
        }
    }

    private static void due(String what, boolean got, boolean want) {
        due(what, got ? 1L : 0L, want ? 1L : 0L);
    }

    private static void addRange(SideLinkTree x, int from, int to) {
        for (int i = from; i <= to; i++) {
            due("add " + i, x.add(0L, 0L, 0L, i, 0), 1);
        }
    }

    private static SideLinkTree withRange(int from, int to) {
        SideLinkTree x = new SideLinkTree();
        addRange(x, from, to);
        return x;
    }

    private static void dueHand(String what, SideLinkTree x, long d, int place) {
        due(what + ", word 3", x.word(3), d);
        due(what + ", place", x.place(), place);
    }

    private static void dueRow(String what, SideLinkTree x, int l, int... sizes) {
        int sum = 0;
        for (int k = 0; k < sizes.length; k++) {
            due(what + ", level " + l + " page " + k, x.level(l, 2 + k), sizes[k]);
            sum += sizes[k];
        }
        due(what + ", no page more in level " + l, x.level(l, 2 + sizes.length), -1);
        due(what + ", pages of level " + l, x.level(l, 0), sizes.length);
        due(what + ", entries of level " + l, x.level(l, 1), sum);
    }

    private static void dueAll(String what, SideLinkTree x, int from, int to) {
        x.first();
        for (int i = from; i <= to; i++) {
            due(what + ", next to " + i, x.next(), true);
            due(what + ", next", x.word(3), i);
        }
        due(what + ", next at the end", x.next(), false);
        x.last();
        for (int i = to; i >= from; i--) {
            due(what + ", back to " + i, x.back(), true);
            due(what + ", back", x.word(3), i);
        }
        due(what + ", back at the start", x.back(), false);
    }

    private static void promise1New() {
        SideLinkTree x = new SideLinkTree();
        due("1 levels", x.count(0), 1);
        due("1 pages", x.count(1), 1);
        due("1 words", x.count(2), 3);
        due("1 entries", x.count(3), 0);
        dueRow("1", x, 0, 0);
        due("1 next", x.next(), false);
        due("1 back", x.back(), false);
        for (int k = 0; k < 4; k++) {
            due("1 word", x.word(k), 0);
        }
        due("1 place", x.place(), 0);
        due("1 no charge", x.add(0, 0, 0, 0, 0), 1);
        due("1 cursor before all", x.next(), true);
    }

    private static void promise2Add() {
        SideLinkTree x = new SideLinkTree();
        due("2 add", x.add(1, 2, 3, 4, 5), 1);
        due("2 again", x.add(1, 2, 3, 4, 5), 0);
        due("2 other place", x.add(1, 2, 3, 4, 6), 1);
        due("2 place below 0", x.add(1, 2, 3, 4, -1), -1);
        due("2 lowest place", x.add(1, 2, 3, 4, Integer.MIN_VALUE), -1);
        due("2 highest entry", x.add(-1, -1, -1, -1, Integer.MAX_VALUE), 1);
        due("2 lowest entry", x.add(0, 0, 0, 0, 0), 1);
        due("2 entries", x.count(3), 4);
        due("2 words", x.count(2), 3 + 4 * 11);
        due("2 lowest place on the low of all", x.add(0, 0, 0, 0, -1), -1);
    }

    private static void promise2Splits() {
        SideLinkTree x = withRange(1, 10);
        dueRow("2 full root", x, 0, 10);
        due("2 words of a full root", x.count(2), 113);
        addRange(x, 11, 11);
        due("2 words of a root's split", x.count(2), 113 + 145 + 11);
        dueRow("2 root split", x, 0, 5, 6);
        dueRow("2 root split", x, 1, 2);
        addRange(x, 12, 16);
        due("2 words of a page's split", x.count(2), 269 + 44 + 86);
        dueRow("2 page split", x, 0, 5, 5, 6);
        dueRow("2 page split", x, 1, 3);
        addRange(x, 17, 55);
        dueRow("2 ten marks", x, 0, 5, 5, 5, 5, 5, 5, 5, 5, 5, 10);
        dueRow("2 ten marks", x, 1, 10);
        due("2 pages with ten marks", x.count(1), 11);
        int words = x.count(2);
        addRange(x, 56, 56);
        due("2 words of two splits", x.count(2), words + 64 + 145 + 11 + 11);
        due("2 three levels", x.count(0), 3);
        due("2 pages of three levels", x.count(1), 14);
        dueRow("2 three levels", x, 0, 5, 5, 5, 5, 5, 5, 5, 5, 5, 5, 6);
        dueRow("2 three levels", x, 1, 5, 6);
        dueRow("2 three levels", x, 2, 2);
        dueAll("2 three levels", x, 1, 56);
    }

    private static void promise2MarkPageSplits() {
        SideLinkTree x = withRange(1, 80);
        dueRow("2 ten marks in a page that is not the root", x, 1, 5, 10);
        int words = x.count(2);
        addRange(x, 81, 81);
        due("2 words of splits in two levels", x.count(2), words + 64 + 64 + 11 + 11 + 11);
        dueRow("2 mark page split", x, 1, 5, 5, 6);
        dueRow("2 mark page split", x, 2, 3);
        dueAll("2 mark page split", x, 1, 81);
    }

    private static void promise2EntryIntoLeftHalf() {
        SideLinkTree x = new SideLinkTree();
        for (int i = 20; i >= 2; i -= 2) {
            due("2 add down", x.add(0, 0, 0, i, 0), 1);
        }
        due("2 into the left half", x.add(0, 0, 0, 11, 0), 1);
        dueRow("2 into the left half", x, 0, 6, 5);
        due("2 the low itself with a lower place", x.remove(0, 0, 0, 12, 0), 1);
        due("2 the low again", x.add(0, 0, 0, 12, 0), 1);
        dueRow("2 the low belongs to the right page", x, 0, 6, 5);
    }

    private static void promise2LowsStay() {
        SideLinkTree x = withRange(1, 11);
        for (int i = 1; i <= 11; i++) {
            due("2 empty", x.remove(0, 0, 0, i, 0), 1);
        }
        dueRow("2 emptied", x, 0, 0, 0);
        due("2 below the low", x.add(0, 0, 0, 5, 9), 1);
        due("2 at the low", x.add(0, 0, 0, 6, 0), 1);
        dueRow("2 lows stay", x, 0, 1, 1);
    }

    private static void promise2PagesDoNotSuffice() {
        SideLinkTree x = withRange(1, 10);
        for (int i = 0; i < 29; i++) {
            due("2 charge", x.charge(0), true);
            due("2 cut before the first word", x.add(0, 0, 0, 11, 0), -2);
        }
        due("2 pages stay taken", x.count(1), 59);
        due("2 no word set", x.count(2), 113);
        due("2 charge 5", x.charge(5), true);
        due("2 two pages needed, one there", x.add(0, 0, 0, 11, 0), -1);
        due("2 refused takes none", x.count(1), 59);
        due("2 there, whatever pages there are", x.add(0, 0, 0, 10, 0), 0);
        due("2 refused place", x.add(0, 0, 0, 11, -1), -1);
        due("2 remove", x.remove(0, 0, 0, 10, 0), 1);
        due("2 charge stayed", x.add(0, 0, 0, 10, 0), -2);
        due("2 charge had four words more", x.count(2), 113 + 5);
        x.clear();
        addRange(x, 1, 20);
        dueAll("2 pages given back", x, 1, 20);
    }

    private static void promise2LastPageIsUsed() {
        SideLinkTree x = withRange(1, 15);
        for (int i = 0; i < 56; i++) {
            due("2 charge", x.charge(0), true);
            due("2 cut", x.add(0, 0, 0, 16, 0), -2);
        }
        due("2 one page left", x.count(1), 59);
        due("2 the last page", x.add(0, 0, 0, 16, 0), 1);
        due("2 all pages", x.count(1), 60);
        addRange(x, 17, 20);
        due("2 none left", x.add(0, 0, 0, 21, 0), -1);
        due("2 not there", x.has(0, 0, 0, 21, 0), false);
        due("2 another page has room", x.add(0, 0, 0, 1, 1), 1);
    }

    private static void promise2CutRoot() {
        for (int n = 0; n <= 156; n++) {
            SideLinkTree x = withRange(1, 10);
            due("2 charge", x.charge(n), true);
            due("2 root cut at " + n, x.add(0, 0, 0, 11, 0), n < 156 ? -2 : 1);
            due("2 words at " + n, x.count(2), 113 + n);
            due("2 pages at " + n, x.count(1), 3);
            due("2 levels at " + n, x.count(0), n < 145 ? 1 : 2);
            due("2 there at " + n, x.has(0, 0, 0, 11, 0), n == 156);
            dueAll("2 root cut at " + n, x, 1, n < 156 ? 10 : 11);
        }
    }

    private static void promise2CutPage() {
        for (int n = 0; n <= 86; n++) {
            SideLinkTree x = withRange(1, 15);
            int words = x.count(2);
            due("2 charge", x.charge(n), true);
            due("2 page cut at " + n, x.add(0, 0, 0, 16, 0), n < 86 ? -2 : 1);
            due("2 words at " + n, x.count(2), words + n);
            due("2 pages at " + n, x.count(1), 4);
            due("2 row at " + n, x.level(0, 0), n < 63 ? 2 : 3);
            due("2 left page at " + n, x.level(0, 3), n < 63 ? 10 : 5);
            due("2 marks at " + n, x.level(1, 1), n < 75 ? 2 : 3);
            due("2 entries at " + n, x.count(3), n < 86 ? 15 : 16);
            dueAll("2 page cut at " + n, x, 1, n < 86 ? 15 : 16);
            due("2 no charge any more behind a cut", x.add(0, 0, 0, 3, 7), n < 86 ? 1 : -2);
        }
    }

    private static SideLinkTree withWordLacking() {
        SideLinkTree x = withRange(1, 15);
        due("lacking charge", x.charge(63), true);
        due("lacking add", x.add(0, 0, 0, 16, 0), -2);
        return x;
    }

    private static void promise2MadeUpFor() {
        SideLinkTree x = withWordLacking();
        int words = x.count(2);
        due("2 to the right costs no more", x.add(0, 0, 0, 12, 1), 1);
        due("2 eleven", x.count(2), words + 11);
        due("2 charge 0", x.charge(0), true);
        due("2 the word itself is cut", x.add(0, 0, 0, 7, 1), -2);
        due("2 no word", x.count(2), words + 11);
        due("2 charge 1", x.charge(1), true);
        due("2 only that word", x.add(0, 0, 0, 7, 1), -2);
        due("2 one word", x.count(2), words + 12);
        due("2 made up for", x.add(0, 0, 0, 7, 1), 1);
        due("2 eleven more", x.count(2), words + 23);

        x = withWordLacking();
        words = x.count(2);
        due("2 by a put", x.add(0, 0, 0, 7, 1), 1);
        due("2 twelve", x.count(2), words + 12);
        due("2 then as ever", x.add(0, 0, 0, 7, 2), 1);
        due("2 eleven again", x.count(2), words + 23);
        dueRow("2 made up for", x, 0, 5, 7, 5);
    }

    private static void promise2MarkPageMadeUpFor() {
        SideLinkTree x = withRange(1, 80);
        due("2 charge", x.charge(64 + 63), true);
        due("2 a page of marks lacks a word", x.add(0, 0, 0, 81, 0), -2);
        dueRow("2 a page of marks lacks a word", x, 1, 5, 5, 5);
        dueRow("2 a page of marks lacks a word", x, 2, 2);
        for (int place = 1; place <= 10; place++) {
            int words = x.count(2);
            due("2 below that page", x.add(0, 0, 0, 26, place), 1);
            due("2 words below that page", x.count(2), words + (place == 6 ? 87 : 11));
        }
        dueRow("2 a page of marks is made up for", x, 1, 5, 6, 5);
        due("2 charge", x.charge(64), true);
        due("2 a split with its mark cut", x.add(0, 0, 0, 26, 11), -2);
        dueRow("2 no mark", x, 1, 5, 6, 5);
        due("2 one page more", x.level(0, 0), 18);
        due("2 all entries", x.count(3), 90);
    }

    private static void promise2SplitInTheMiddle() {
        SideLinkTree x = withRange(1, 30);
        for (int place = 1; place <= 6; place++) {
            due("2 in the middle", x.add(0, 0, 0, 13, place), 1);
        }
        dueRow("2 split in the middle", x, 0, 5, 5, 5, 6, 5, 10);
        dueRow("2 split in the middle", x, 1, 6);
        due("2 right of the middle", x.has(0, 0, 0, 30, 0), true);
        x.seek(0, 0, 0, 15);
        due("2 on from the middle", x.next() && x.next(), true);
        dueHand("2 on from the middle", x, 16, 0);
    }

    private static void promise3Remove() {
        SideLinkTree x = withRange(1, 16);
        int words = x.count(2);
        due("3 remove", x.remove(0, 0, 0, 8, 0), 1);
        due("3 one word", x.count(2), words + 1);
        due("3 again", x.remove(0, 0, 0, 8, 0), 0);
        due("3 other place", x.remove(0, 0, 0, 7, 1), 0);
        due("3 other key", x.remove(1, 0, 0, 7, 0), 0);
        due("3 place below 0", x.remove(0, 0, 0, 7, -1), 0);
        due("3 low of all is no entry", x.remove(0, 0, 0, 0, -1), 0);
        due("3 no more words", x.count(2), words + 1);
        due("3 charge", x.charge(0), true);
        due("3 not there is not cut", x.remove(0, 0, 0, 8, 0), 0);
        due("3 cut", x.remove(0, 0, 0, 7, 0), -2);
        due("3 is there", x.has(0, 0, 0, 7, 0), true);
        for (int i = 1; i <= 16; i++) {
            due("3 remove " + i, x.remove(0, 0, 0, i, 0), i == 8 ? 0 : 1);
        }
        dueRow("3 pages stay", x, 0, 0, 0, 0);
        dueRow("3 marks stay", x, 1, 3);
        due("3 pages stay", x.count(1), 4);
    }

    private static void promise3MakesUpFor() {
        SideLinkTree x = withWordLacking();
        int words = x.count(2);
        due("3 charge", x.charge(0), true);
        due("3 cut", x.remove(0, 0, 0, 7, 0), -2);
        due("3 remove", x.remove(0, 0, 0, 7, 0), 1);
        due("3 one word", x.count(2), words + 1);
        due("3 add behind", x.add(0, 0, 0, 7, 0), 1);
        due("3 made up for", x.count(2), words + 12);

        x = withWordLacking();
        words = x.count(2);
        due("3 from the page to the right", x.remove(0, 0, 0, 12, 0), 1);
        due("3 add", x.add(0, 0, 0, 7, 1), 1);
        due("3 not made up for by that", x.count(2), words + 13);

        x = withWordLacking();
        words = x.count(2);
        due("3 not there", x.remove(0, 0, 0, 7, 5), 0);
        due("3 charge", x.charge(0), true);
        due("3 cut", x.remove(0, 0, 0, 7, 0), -2);
        due("3 add", x.add(0, 0, 0, 7, 1), 1);
        due("3 nor by one that is cut", x.count(2), words + 12);
    }

    private static void promise4Has() {
        SideLinkTree x = new SideLinkTree();
        due("4 empty", x.has(0, 0, 0, 0, 0), false);
        x.add(1, 2, 3, 4, 5);
        due("4 has", x.has(1, 2, 3, 4, 5), true);
        due("4 other a", x.has(0, 2, 3, 4, 5), false);
        due("4 other b", x.has(1, 0, 3, 4, 5), false);
        due("4 other c", x.has(1, 2, 0, 4, 5), false);
        due("4 other d", x.has(1, 2, 3, 0, 5), false);
        due("4 other place", x.has(1, 2, 3, 4, 4), false);
        due("4 place below 0", x.has(1, 2, 3, 4, -5), false);
        due("4 low of all is no entry", x.has(0, 0, 0, 0, -1), false);
        x = withRange(1, 81);
        for (int i = 0; i <= 82; i++) {
            due("4 has " + i, x.has(0, 0, 0, i, 0), i >= 1 && i <= 81);
        }
        due("4 no words", x.charge(0), true);
        due("4 is not cut", x.has(0, 0, 0, 5, 0), true);
    }

    private static void promise5Seek() {
        SideLinkTree x = new SideLinkTree();
        x.add(0, 0, 0, 5, 2);
        x.add(0, 0, 0, 5, 0);
        x.add(0, 0, 0, 4, 9);
        x.add(0, 0, 1, 0, 0);
        x.add(0, 0, -1, 0, 1);
        x.seek(0, 0, 0, 5);
        due("5 next", x.next(), true);
        dueHand("5 next", x, 5, 0);
        x.seek(0, 0, 0, 5);
        due("5 back", x.back(), true);
        dueHand("5 back", x, 4, 9);
        x.seek(0, 0, 0, 6);
        due("5 between, next", x.next(), true);
        due("5 between, next", x.word(2), 1);
        x.seek(0, 0, 0, 6);
        due("5 between, back", x.back(), true);
        dueHand("5 between, back", x, 5, 2);
        x.seek(0, 0, 0, -1);
        due("5 without sign", x.next(), true);
        due("5 without sign", x.word(2), 1);
        x.seek(-1, -1, -1, -1);
        due("5 behind", x.next(), false);
        due("5 behind, back", x.back(), true);
        due("5 behind, back", x.word(2), -1);
        x.seek(0, 0, 0, 0);
        due("5 before", x.back(), false);
        x.seek(0, 0, 0, 7);
        x.add(0, 0, 0, 6, 0);
        x.add(0, 0, 0, 7, 0);
        due("5 added behind the cursor", x.next(), true);
        dueHand("5 added behind the cursor", x, 7, 0);
        x.seek(0, 0, 0, 7);
        due("5 added before the cursor", x.back(), true);
        dueHand("5 added before the cursor", x, 6, 0);
    }

    private static void promise6First() {
        SideLinkTree x = withRange(1, 12);
        x.last();
        x.first();
        due("6 back", x.back(), false);
        x.add(0, 0, 0, 0, 0);
        due("6 still before all", x.back(), false);
        due("6 next", x.next(), true);
        dueHand("6 next", x, 0, 0);
    }

    private static void promise7Last() {
        SideLinkTree x = withRange(1, 12);
        x.last();
        due("7 next", x.next(), false);
        x.add(-1, -1, -1, -1, Integer.MAX_VALUE);
        due("7 still behind all", x.next(), false);
        due("7 back", x.back(), true);
        due("7 back", x.word(0), -1);
        due("7 back", x.place(), Integer.MAX_VALUE);
        x = new SideLinkTree();
        x.last();
        x.add(0, 0, 0, 1, 0);
        due("7 behind all of none", x.next(), false);
        due("7 back to what came", x.back(), true);
    }

    private static void promise8Next() {
        SideLinkTree x = withRange(1, 3);
        due("8 next", x.next(), true);
        due("8 next", x.next(), true);
        due("8 next", x.next(), true);
        due("8 none", x.next(), false);
        dueHand("8 hand stays", x, 3, 0);
        x.add(0, 0, 0, 4, 0);
        due("8 the cursor stood behind 3", x.next(), true);
        dueHand("8 came later", x, 4, 0);
        x.seek(0, 0, 0, 2);
        x.next();
        x.remove(0, 0, 0, 2, 0);
        dueHand("8 removed stays in hand", x, 2, 0);
        x.add(0, 0, 0, 2, 0);
        due("8 the cursor stands behind 2", x.next(), true);
        dueHand("8 behind 2", x, 3, 0);
        x = withRange(1, 30);
        for (int i = 6; i <= 15; i++) {
            x.remove(0, 0, 0, i, 0);
        }
        x.seek(0, 0, 0, 5);
        x.next();
        due("8 past empty pages", x.next(), true);
        dueHand("8 past empty pages", x, 16, 0);
        for (int i = 16; i <= 30; i++) {
            x.remove(0, 0, 0, i, 0);
        }
        x.seek(0, 0, 0, 6);
        due("8 only empty pages", x.next(), false);
        dueHand("8 only empty pages", x, 16, 0);
    }

    private static void promise9Back() {
        SideLinkTree x = withRange(2, 4);
        x.last();
        due("9 back", x.back(), true);
        dueHand("9 back", x, 4, 0);
        due("9 and on again", x.next(), true);
        dueHand("9 the same", x, 4, 0);
        x.seek(0, 0, 0, 3);
        due("9 back", x.back(), true);
        due("9 none", x.back(), false);
        dueHand("9 hand stays", x, 2, 0);
        x.add(0, 0, 0, 1, 0);
        due("9 the cursor stood before 2", x.back(), true);
        dueHand("9 came later", x, 1, 0);
        x.last();
        x.back();
        x.remove(0, 0, 0, 4, 0);
        x.add(0, 0, 0, 4, 0);
        due("9 the cursor stands before 4", x.back(), true);
        dueHand("9 before 4", x, 3, 0);
        x = withRange(1, 30);
        for (int i = 6; i <= 15; i++) {
            x.remove(0, 0, 0, i, 0);
        }
        x.seek(0, 0, 0, 16);
        due("9 past empty pages", x.back(), true);
        dueHand("9 past empty pages", x, 5, 0);
    }

    private static void promise10And11Hand() {
        SideLinkTree x = new SideLinkTree();
        x.add(-1, 2, Long.MIN_VALUE, Long.MAX_VALUE, 5);
        due("10 not in hand yet", x.word(1), 0);
        due("11 not in hand yet", x.place(), 0);
        x.next();
        due("10 word 0", x.word(0), -1);
        due("10 word 1", x.word(1), 2);
        due("10 word 2", x.word(2), Long.MIN_VALUE);
        due("10 word 3", x.word(3), Long.MAX_VALUE);
        due("10 word 4", x.word(4), 0);
        due("10 word -1", x.word(-1), 0);
        due("10 word lowest", x.word(Integer.MIN_VALUE), 0);
        due("10 word highest", x.word(Integer.MAX_VALUE), 0);
        due("11 place", x.place(), 5);
        x.seek(0, 0, 0, 0);
        due("10 stays", x.word(1), 2);
        x.first();
        x.last();
        due("11 stays", x.place(), 5);
    }

    private static void orderOfEntries() {
        long[][] rising = {
            {0, 0, 0, 0, 0}, {0, 0, 0, 0, 1}, {0, 0, 0, 0, Integer.MAX_VALUE}, {0, 0, 0, 1, 0},
            {0, 0, 0, Long.MAX_VALUE, 0}, {0, 0, 0, Long.MIN_VALUE, 0}, {0, 0, 0, -1, 0},
            {0, 0, 1, 0, 0}, {0, 0, -1, 0, 0}, {0, 1, 0, 0, 0}, {0, -1, 0, 0, 0}, {1, 0, 0, 0, 0},
            {Long.MAX_VALUE, 0, 0, 0, 0}, {Long.MIN_VALUE, 0, 0, 0, 0}, {-1, 0, 0, 0, 0}};
        SideLinkTree x = new SideLinkTree();
        for (int i = 0; i < rising.length; i++) {
            long[] e = rising[i * 7 % rising.length];
            due("order, add", x.add(e[0], e[1], e[2], e[3], (int) e[4]), 1);
        }
        for (long[] e : rising) {
            due("order, next", x.next(), true);
            for (int k = 0; k < 4; k++) {
                due("order, word " + k, x.word(k), e[k]);
            }
            due("order, place", x.place(), e[4]);
        }
        due("order, end", x.next(), false);
    }

    private static void promise12Clear() {
        SideLinkTree x = withRange(1, 56);
        x.seek(0, 0, 0, 9);
        x.next();
        int words = x.count(2);
        due("12 charge", x.charge(2), true);
        x.clear();
        due("12 levels", x.count(0), 1);
        due("12 pages", x.count(1), 1);
        due("12 words", x.count(2), words + 3);
        due("12 entries", x.count(3), 0);
        dueRow("12", x, 0, 0);
        due("12 no level 1", x.level(1, 0), -1);
        dueHand("12 hand stays", x, 9, 0);
        due("12 charge stays", x.add(0, 0, 0, 1, 0), -2);
        due("12 and did not count", x.count(2), words + 5);
        due("12 gone", x.has(0, 0, 0, 9, 0), false);
        x.add(0, 0, 0, 1, 0);
        due("12 cursor before all", x.next(), true);
        dueHand("12 cursor before all", x, 1, 0);
        x.clear();
        addRange(x, 1, 56);
        dueAll("12 pages are used again", x, 1, 56);
        dueRow("12 pages are used again", x, 2, 2);
        x = withWordLacking();
        x.clear();
        words = x.count(2);
        addRange(x, 1, 15);
        due("12 no page lacks a word", x.count(2), words + 145 + 15 * 11);
    }

    private static void promise13Charge() {
        SideLinkTree x = new SideLinkTree();
        due("13 below 0", x.charge(-1), false);
        due("13 lowest", x.charge(Integer.MIN_VALUE), false);
        due("13 above 999", x.charge(1000), false);
        due("13 highest", x.charge(Integer.MAX_VALUE), false);
        due("13 refused is no charge", x.add(0, 0, 0, 1, 0), 1);
        due("13 999", x.charge(999), true);
        due("13 0", x.charge(0), true);
        due("13 refused", x.charge(1000), false);
        due("13 refused changes nothing", x.add(0, 0, 0, 2, 0), -2);
        due("13 no charge any more", x.add(0, 0, 0, 2, 0), 1);
        due("13 11", x.charge(11), true);
        due("13 eleven suffice", x.add(0, 0, 0, 3, 0), 1);
        due("13 the next word is not set", x.remove(0, 0, 0, 3, 0), -2);
        due("13 no charge any more", x.remove(0, 0, 0, 3, 0), 1);
        due("13 20", x.charge(20), true);
        due("13 over calls", x.add(0, 0, 0, 3, 0), 1);
        due("13 a new one counts alone", x.charge(11), true);
        due("13 eleven", x.add(0, 0, 0, 4, 0), 1);
        int words = x.count(2);
        due("13 cut", x.add(0, 0, 0, 5, 0), -2);
        due("13 a cut word is not set", x.count(2), words);
        due("13 999", x.charge(999), true);
        for (int i = 0; i < 83; i++) {
            due("13 one word", x.remove(0, 0, 0, 4, 0), 1);
            due("13 eleven words", x.add(0, 0, 0, 4, 0), 1);
        }
        due("13 the 997th", x.remove(0, 0, 0, 4, 0), 1);
        due("13 the 1000th is not set", x.add(0, 0, 0, 4, 0), -2);
        due("13 all of 999 were set", x.count(2), words + 999);
    }

    private static void promise14Count() {
        SideLinkTree x = withRange(1, 16);
        due("14 levels", x.count(0), 2);
        due("14 pages", x.count(1), 4);
        due("14 words", x.count(2), 399);
        due("14 entries", x.count(3), 16);
        due("14 another", x.count(4), -1);
        due("14 below", x.count(-1), -1);
        due("14 lowest", x.count(Integer.MIN_VALUE), -1);
        due("14 highest", x.count(Integer.MAX_VALUE), -1);
        x = withWordLacking();
        due("14 entries once behind a cut", x.count(3), 15);
    }

    private static void promise15Level() {
        SideLinkTree x = withRange(1, 16);
        dueRow("15", x, 0, 5, 5, 6);
        dueRow("15", x, 1, 3);
        due("15 no level", x.level(2, 0), -1);
        due("15 level below 0", x.level(-1, 0), -1);
        due("15 lowest level", x.level(Integer.MIN_VALUE, 0), -1);
        due("15 highest level", x.level(Integer.MAX_VALUE, 1), -1);
        due("15 what below 0", x.level(0, -1), -1);
        due("15 lowest what", x.level(0, Integer.MIN_VALUE), -1);
        due("15 highest what", x.level(0, Integer.MAX_VALUE), -1);
        x = withWordLacking();
        dueRow("15 behind a cut", x, 0, 5, 5, 5);
        dueRow("15 behind a cut", x, 1, 2);
    }

    public static void main(String[] args) {
        promise1New();
        promise2Add();
        promise2Splits();
        promise2MarkPageSplits();
        promise2EntryIntoLeftHalf();
        promise2LowsStay();
        promise2PagesDoNotSuffice();
        promise2LastPageIsUsed();
        promise2CutRoot();
        promise2CutPage();
        promise2MadeUpFor();
        promise2MarkPageMadeUpFor();
        promise2SplitInTheMiddle();
        promise3Remove();
        promise3MakesUpFor();
        promise4Has();
        promise5Seek();
        promise6First();
        promise7Last();
        promise8Next();
        promise9Back();
        promise10And11Hand();
        orderOfEntries();
        promise12Clear();
        promise13Charge();
        promise14Count();
        promise15Level();
        System.out.println(wrong == 0 ? "all answers are as due" : wrong + " answers are not as due");
        if (wrong != 0) {
            System.exit(1);
        }
    }
}
