import java.io.IOException;
import java.nio.file.DirectoryStream;
import java.nio.file.Files;
import java.nio.file.Path;

/**
 * The whole document once more, from its first line: what of a sentence the other tests that quote leave
 * out, with the sentence quoted. At the end each sentence of the document is looked up in the tests: it
 * must be quoted in one of them, or stand among those of which nothing can be asked.
 */
public final class DocumentTest extends Sentences {

    /** These promise nothing, so no answer can break them. */
    private static final String[] NOTHING_TO_ASK = {
        "How the state is held inside the object is free, as are the speed of each call, the text of toString and "
            + "the behaviour of equals and hashCode.",
        "Use of one object from several threads at once is not promised to be safe.",
        "Nothing is promised beyond the answers and state changes described above, and nothing about an object "
            + "after its 512th call."};

    // ---- What it is

    private static final String WHAT_IT_IS = "A tree of pages with links to the right: entries are found, added, "
        + "removed and gone through both ways, pages are split so that at every moment, also behind a cut between "
        + "any two words that are set, all entries are found.";

    /** A row as long as 60 pages allow: no page but the first two has a mark. */
    private static SideLinkTree longestRow() {
        SideLinkTree x = rising(10);
        cutAdd(x, 145, 11, 0);
        for (int n = 10; n < 295; n += 5) {
            addAll(x, n + 1, n + 5);
            cutAdd(x, 64, n + 6, 0);
        }
        return x;
    }

    private static void linksToTheRightAlone() {
        by(WHAT_IT_IS);
        SideLinkTree x = longestRow();
        due("pages", x.count(1), 60);
        due("pages of the row", x.level(0, 0), 59);
        due("entries", x.level(0, 1), 295);
        due("the rightmost page", x.level(0, 2 + 58), 5);
        due("none behind it", x.level(0, 2 + 59), -1);
        due("marks", x.level(1, 1), 2);
        for (int i = 5; i <= 295; i += 29) {
            due("found " + i, has(x, i, 0), true);
            due("not found", has(x, i, 1), false);
        }
        due("added at the far end", add(x, 296, 0), 1);
        due("into the rightmost page", x.level(0, 2 + 58), 6);
        x.last();
        dueBack("gone through from the end", x, 296, 0);
        x.seek(0, 0, 0, 290);
        dueNext("gone through from the middle", x, 290, 0);
        dueNext("and on", x, 291, 0);
        due("removed at the far end", remove(x, 296, 0), 1);
        due("removed from the row's middle", remove(x, 150, 0), 1);
        due("not found", has(x, 150, 0) || has(x, 296, 0), false);
    }

    private static void bothWaysPastEmptyPages() {
        by(WHAT_IT_IS);
        SideLinkTree x = rising(240);
        for (int i = 2; i < 240; i++) {
            due("remove", remove(x, i, 0), 1);
        }
        due("pages", x.level(0, 0), 47);
        due("next", x.next(), true);
        due("the first", x.word(3), 1);
        due("next", x.next(), true);
        due("the last", x.word(3), 240);
        due("no more", x.next(), false);
        due("back", x.back() && x.back(), true);
        due("the first", x.word(3), 1);
        due("no more", x.back(), false);
    }

    private static void dueGoneThrough(SideLinkTree x, int entries) {
        x.first();
        for (int i = 0; i < entries; i++) {
            due("next", x.next(), true);
        }
        due("no more", x.next(), false);
    }

    private static void foundBehindACutOfWhatIsMadeUpFor() {
        by(WHAT_IT_IS);
        // The mark comes into a page of marks that lacks a word: 64 for the split below, one for that word,
        // eleven for the mark, eleven for the entry.
        for (int n = 0; n <= 64 + 12 + 11; n++) {
            SideLinkTree x = rising(80);
            cutAdd(x, 64 + 63, 81, 0);
            for (int place = 1; place <= 5; place++) {
                due("add", add(x, 26, place), 1);
            }
            int words = x.count(2);
            boolean whole = n == 64 + 12 + 11;
            due("charge", x.charge(n), true);
            due("add cut behind " + n, add(x, 26, 6), whole ? 1 : -2);
            due("words", x.count(2), words + n);
            due("levels", x.count(0), 3);
            due("marks, cut behind " + n, row(x, 1) + ", " + row(x, 2), n < 64 + 12 ? "5 5 5, 2" : "5 6 5, 2");
            due("entries", x.count(3), whole ? 86 : 85);
            for (int i = 1; i <= 80; i++) {
                due("has " + i + ", cut behind " + n, has(x, i, 0), true);
            }
            for (int place = 1; place <= 6; place++) {
                due("has place " + place, has(x, 26, place), place < 6 || whole);
            }
            dueGoneThrough(x, whole ? 86 : 85);
            due("charge", x.charge(999), true);
            for (int place = 1; place <= 5; place++) {
                due("below that page again", add(x, 41, place), 1);
            }
            words = x.count(2);
            due("a split below that page", add(x, 41, 6), 1);
            due("its words, cut behind " + n, x.count(2), words + 64 + (n < 64 + 1 ? 12 : 11) + 11);
            due("its mark comes", row(x, 1) + ", " + row(x, 2), n < 64 + 12 ? "5 6 5, 2" : "5 7 5, 2");
        }
    }

    private static void pageOfMarksWithoutAMark() {
        by(WHAT_IT_IS);
        SideLinkTree x = rising(80);
        cutAdd(x, 64 + 64, 81, 0);
        due("its mark was cut", row(x, 1) + ", " + row(x, 2), "5 5 5, 2");
        addAll(x, 81, 86);
        due("it gets marks", row(x, 1) + ", " + row(x, 2), "5 5 6, 2");
        addAll(x, 87, 110);
        due("it has ten", row(x, 1) + ", " + row(x, 2), "5 5 10, 2");
        addAll(x, 111, 111);
        due("it is split, and the new one has a mark", row(x, 1) + ", " + row(x, 2), "5 5 5 6, 3");
        for (int i = 1; i <= 111; i++) {
            due("has " + i, has(x, i, 0), true);
        }
        dueGoneThrough(x, 111);
    }

    private static final String CALLS = "An object is used for at most 512 calls after it has been made; what later "
        + "calls answer is free.";

    private static void allCallsOfOneKind() {
        by(CALLS);
        SideLinkTree x = new SideLinkTree();
        for (int i = 0; i < 255; i++) {
            due("add", add(x, i, 0), 1);
            due("remove", remove(x, i, 0), 1);
        }
        due("call 511", x.count(1), 1);
        due("call 512", x.count(2), 3 + 255 * 12);
        x = new SideLinkTree();
        for (int i = 0; i < 255; i++) {
            due("add", add(x, 1, 0), 1);
            x.clear();
        }
        due("call 511", x.count(1), 1);
        due("call 512", x.count(2), 3 + 255 * 14);
        x = new SideLinkTree();
        for (int i = 0; i < 511; i++) {
            x.clear();
        }
        due("call 512", x.count(2), 3 + 511 * 3);
        x = new SideLinkTree();
        for (int i = 0; i < 255; i++) {
            cutAdd(x, 0, 1, 0);
        }
        due("call 511", x.count(2), 3);
        due("call 512", add(x, 1, 0), 1);
        x = rising(1);
        for (int i = 0; i < 255; i++) {
            due("next", x.next(), true);
            due("back", x.back(), true);
        }
        due("call 512", x.word(3), 1);
    }

    // ---- Terms

    private static void withoutSignInMarks() {
        by("An ENTRY has a KEY, four words a, b, c, d (longs, compared without sign, a first), and a PLACE "
            + "(an int from 0 on).");
        for (int k = 0; k < 4; k++) {
            SideLinkTree x = new SideLinkTree();
            // The highest six bits rise, so the sign changes in the middle; the words behind fall.
            for (int i = 0; i < 64; i++) {
                long w = (long) i << 58;
                due("add", x.add(k == 0 ? w : 7L, k == 1 ? w : k < 1 ? ~w : 7L, k == 2 ? w : k < 2 ? ~w : 7L,
                    k == 3 ? w : ~w, 0), 1);
            }
            due("three levels", x.count(0), 3);
            for (int i = 0; i < 64; i++) {
                long w = (long) i << 58;
                due("has", x.has(k == 0 ? w : 7L, k == 1 ? w : k < 1 ? ~w : 7L, k == 2 ? w : k < 2 ? ~w : 7L,
                    k == 3 ? w : ~w, 0), true);
                due("next by word " + k, x.next(), true);
                due("word " + k, x.word(k), w);
            }
        }
    }

    private static void eachInThePageInCharge() {
        by("The pages of level 0 have the entries of the tree, each the one in charge of it; a page of a higher level "
            + "has MARKS, lows of pages of the level below, each with its page; a mark counts as an entry here.");
        SideLinkTree x = rising(56);
        int[] entries = {1, 5, 6, 25, 26, 30, 50, 51, 56};
        int[] pages = {0, 0, 1, 4, 5, 5, 9, 10, 10};
        for (int i = 0; i < entries.length; i++) {
            int of = x.level(0, 2 + pages[i]);
            due("remove", remove(x, entries[i], 0), 1);
            due("it was in page " + pages[i], x.level(0, 2 + pages[i]), of - 1);
            due("the tree has one less", x.count(3) + " " + x.level(0, 1), "55 55");
            due("add", add(x, entries[i], 0), 1);
            due("it is there again", x.level(0, 2 + pages[i]), of);
            due("marks are as they were", row(x, 1) + ", " + row(x, 2), "5 6, 2");
        }
    }

    private static void onlyWordsThatAreSet() {
        by("SETS are words, of up to four bytes, that are set.");
        SideLinkTree x = rising(11);
        due("charge", x.charge(11), true);
        int words = x.count(2);
        x.seek(0, 0, 0, 3);
        due("next", x.next() && x.next(), true);
        due("back", x.back(), true);
        x.first();
        x.last();
        due("has", has(x, 1, 0), true);
        due("there", add(x, 1, 0), 0);
        due("refused", add(x, 1, -1), -1);
        due("not there", remove(x, 12, 0), 0);
        due("hand", x.word(3) + x.place(), 4);
        due("level", x.level(0, 0), 2);
        due("charge refused", x.charge(-1), false);
        due("none of these sets a word", x.count(2), words);
        due("nor takes one of the charge", add(x, 12, 0), 1);
        due("words", x.count(2), words + 11);
        due("charge", x.charge(999), true);
        due("a word that had its value before is set all the same", remove(x, 12, 0) + add(x, 12, 0), 2);
        due("words", x.count(2), words + 11 + 1 + 11);
    }

    private static final String LACKING = "A page that is split, not the root: 62 for the new page, one by which that "
        + "is to the right, one behind that (if this one was cut, it is made up for by the first word of the next put "
        + "into the page, one more, or by a removal from it).";

    private static void lackingPageHasFive() {
        by(LACKING);
        SideLinkTree x = withWordLacking();
        int pages = x.count(1);
        due("put", add(x, 10, 1), 1);
        due("takes no page", x.count(1), pages);
        for (int place = 2; place <= 5; place++) {
            due("put", add(x, 10, place), 1);
        }
        due("up to ten", row(x, 0) + ", " + row(x, 1), "5 10 5, 2");
        due("takes no page", x.count(1), pages);
        due("the eleventh", add(x, 10, 6), 1);
        due("splits it again", row(x, 0) + ", " + row(x, 1), "5 5 6 5, 3");
        due("takes one", x.count(1), pages + 1);
        // The same with no page left at all.
        x = withWordLacking();
        addAll(x, 16, 20);
        for (int i = x.count(1); i < 60; i++) {
            cutAdd(x, 0, 21, 0);
        }
        due("no page left", x.count(1), 60);
        due("the page to the right is full", add(x, 21, 0), -1);
        due("the lacking one is not", add(x, 10, 1), 1);
        due("row", row(x, 0), "5 6 10");
    }

    private static void lackingPageOfMarksHasFive() {
        by(LACKING);
        SideLinkTree x = rising(80);
        cutAdd(x, 64 + 63, 81, 0);
        for (int place = 1; place <= 5; place++) {
            due("add", add(x, 26, place), 1);
        }
        int pages = x.count(1);
        due("a mark into that page", add(x, 26, 6), 1);
        due("one page for the split below, none for the marks", x.count(1), pages + 1);
        due("row", row(x, 1) + ", " + row(x, 2), "5 6 5, 2");
    }

    private static void pageAndPageOfMarks() {
        by("The pages that an add needs are taken before its first set; if there are not as many, it is refused.");
        for (int left = 1; left <= 2; left++) {
            SideLinkTree x = rising(75);
            for (int i = 0; i < left; i++) {
                cutAdd(x, 0, 76, 0);
            }
            addAll(x, 76, 80);
            for (int i = x.count(1); i < 60 - left; i += 2) {
                cutAdd(x, 0, 81, 0);
            }
            due("taken", x.count(1), 60 - left);
            String state = state(x);
            due("two needed, " + left + " left", add(x, 81, 0), left < 2 ? -1 : 1);
            due("taken", x.count(1), left < 2 ? 59 : 60);
            due("marks", row(x, 1) + ", " + row(x, 2), left < 2 ? "5 10, 2" : "5 5 6, 3");
            if (left < 2) {
                due("all as before", state(x), state);
            }
        }
    }

    private static void eachCharge() {
        by("After charge(n) n more words can be set; the next one is not, nor any more of that call; what was set "
            + "stays, pages that were taken too, and there is no charge any more.");
        for (int n = 0; n <= 999; n++) {
            SideLinkTree x = new SideLinkTree();
            due("charge " + n, x.charge(n), true);
            x.clear();
            int answer = 1;
            for (int i = 1; i <= 100 && answer == 1; i++) {
                answer = add(x, i, 0);
            }
            due("cut in the end, charge " + n, answer, -2);
            due("words, charge " + n, x.count(2), 3 + 3 + n);
            due("no charge any more", add(x, 0, 0), 1);
        }
    }

    private static void cursorOverASplitThatIsCut() {
        by("The CURSOR stands before or behind all, or at a place between entries; going on, it comes to the next "
            + "entry of the tree as it is then.");
        int[] charges = {0, 61, 62, 63, 64, 74, 75, 85};
        for (int n : charges) {
            SideLinkTree x = rising(15);
            x.seek(0, 0, 0, 10);
            dueNext("behind the last that stays", x, 10, 0);
            cutAdd(x, n, 16, 0);
            dueNext("the first that goes, cut behind " + n, x, 11, 0);
            dueBack("the same", x, 11, 0);
            dueBack("the last that stays", x, 10, 0);
            x.seek(0, 0, 0, 13);
            dueBack("among those that go", x, 12, 0);
            dueNext("among those that go", x, 12, 0);
            dueNext("among those that go", x, 13, 0);
            x.last();
            dueBack("the last of all", x, 15, 0);
        }
    }

    // ---- The document itself

    private static String testSources() throws IOException {
        StringBuilder all = new StringBuilder();
        try (DirectoryStream<Path> tests = Files.newDirectoryStream(Path.of("src", "test", "java"), "*.java")) {
            for (Path test : tests) {
                all.append(Files.readString(test));
            }
        }
        return all.toString().replaceAll("\"\\s*\\+\\s*\"", "");
    }

    private static void eachSentenceIsQuoted() throws IOException {
        if (DOCUMENT == null) {
            return;
        }
        for (String sentence : NOTHING_TO_ASK) {
            by(sentence);
        }
        String sources = testSources();
        // The headings and the code block are left out: FaceTest has the face.
        String prose = DOCUMENT.replaceAll("(?s)```.*?```", "").replaceAll("(?m)^#.*$", "");
        for (String line : prose.split("\n")) {
            for (String sentence : line.replaceAll("^`[^`]*`: ", "").split("(?<=\\.) ")) {
                if (!sources.contains(sentence)) {
                    wrong++;
                    System.out.println("no test quotes: " + sentence);
                }
            }
        }
    }

    public static void main(String[] args) throws IOException {
        linksToTheRightAlone();
        bothWaysPastEmptyPages();
        foundBehindACutOfWhatIsMadeUpFor();
        pageOfMarksWithoutAMark();
        allCallsOfOneKind();
        withoutSignInMarks();
        eachInThePageInCharge();
        onlyWordsThatAreSet();
        lackingPageHasFive();
        lackingPageOfMarksHasFive();
        pageAndPageOfMarks();
        eachCharge();
        cursorOverASplitThatIsCut();
        eachSentenceIsQuoted();
        end();
    }
}
