import java.io.IOException;
import java.nio.file.Files;
import java.nio.file.Path;

/**
 * What the tests that quote the document share: an answer that is not due is printed with the sentence
 * by which it would be, and trees are made in the states that several sentences speak of.
 */
abstract class Sentences {
    static final int MIN = Integer.MIN_VALUE;
    static final int MAX = Integer.MAX_VALUE;

    static final String DOCUMENT = readDocument();
    static String sentence = "";
    static int wrong = 0;

    static String readDocument() {
        Path path = Path.of("..", "shared", "DOC.md");
        try {
            return Files.isReadable(path) ? Files.readString(path) : null;
        } catch (IOException unreadable) {
            return null;
        }
    }

    /** What is due from here on is due by this sentence. */
    static void by(String quoted) {
        sentence = quoted;
        if (DOCUMENT != null && !DOCUMENT.contains(quoted)) {
            wrong++;
            System.out.println("not in the document: " + quoted);
        }
    }

    static void due(String what, long got, long want) {
        if (got != want) {
            wrong++;
            System.out.println(what + " answered " + got + ", due is " + want + ": \"" + sentence + "\"");
        }
    }

    static void due(String what, boolean got, boolean want) {
        due(what, got ? 1L : 0L, want ? 1L : 0L);
    }

    static void due(String what, String got, String want) {
        if (!got.equals(want)) {
            wrong++;
            System.out.println(what + " is " + got + ", due is " + want + ": \"" + sentence + "\"");
        }
    }

    // Most tests use keys that differ in their last word alone.

    static int add(SideLinkTree x, long d, int place) {
        return x.add(0L, 0L, 0L, d, place);
    }

    static int remove(SideLinkTree x, long d, int place) {
        return x.remove(0L, 0L, 0L, d, place);
    }

    static boolean has(SideLinkTree x, long d, int place) {
        return x.has(0L, 0L, 0L, d, place);
    }

    static void addAll(SideLinkTree x, int from, int to) {
        for (int i = from; i <= to; i++) {
            due("add " + i, add(x, i, 0), 1);
        }
    }

    /** Rising keys, so that all pages but the last of a level have five. */
    static SideLinkTree rising(int n) {
        SideLinkTree x = new SideLinkTree();
        addAll(x, 1, n);
        return x;
    }

    static void cutAdd(SideLinkTree x, int n, long d, int place) {
        due("charge " + n, x.charge(n), true);
        due("add of " + d + ", cut behind " + n, add(x, d, place), -2);
    }

    /** Its page of 6 .. 10 was split, and the cut fell right before the last word of the split. */
    static SideLinkTree withWordLacking() {
        SideLinkTree x = rising(15);
        cutAdd(x, 63, 16, 0);
        return x;
    }

    static String row(SideLinkTree x, int l) {
        StringBuilder sizes = new StringBuilder();
        for (int k = 0; k < x.level(l, 0); k++) {
            sizes.append(k == 0 ? "" : " ").append(x.level(l, 2 + k));
        }
        return sizes.toString();
    }

    static String counts(SideLinkTree x) {
        return x.count(0) + " " + x.count(1) + " " + x.count(2) + " " + x.count(3);
    }

    static String hand(SideLinkTree x) {
        return x.word(0) + " " + x.word(1) + " " + x.word(2) + " " + x.word(3) + " " + x.place();
    }

    /** What can be asked without a change: counts, the pages of all levels, and the hand. */
    static String state(SideLinkTree x) {
        StringBuilder state = new StringBuilder(counts(x));
        for (int l = 0; l < x.count(0); l++) {
            state.append(" | ").append(row(x, l));
        }
        return state.append(" | ").append(hand(x)).toString();
    }

    static void dueNext(String what, SideLinkTree x, long d, int place) {
        due(what + ", next", x.next(), true);
        due(what + ", hand", hand(x), "0 0 0 " + d + " " + place);
    }

    static void dueBack(String what, SideLinkTree x, long d, int place) {
        due(what + ", back", x.back(), true);
        due(what + ", hand", hand(x), "0 0 0 " + d + " " + place);
    }

    static void dueAllFound(String what, SideLinkTree x, int n) {
        for (int i = 1; i <= n; i++) {
            due(what + ", has " + i, has(x, i, 0), true);
        }
        x.first();
        for (int i = 1; i <= n; i++) {
            due(what + ", next " + i, x.next(), true);
            due(what + ", word 3", x.word(3), i);
        }
        due(what + ", next behind all", x.next(), false);
        x.last();
        for (int i = n; i >= 1; i--) {
            due(what + ", back " + i, x.back(), true);
            due(what + ", word 3", x.word(3), i);
        }
        due(what + ", back before all", x.back(), false);
    }

    /** As many pages as are said are left, and the next add needs two, for the root. */
    static SideLinkTree rootWithPagesLeft(int left) {
        SideLinkTree x = rising(10);
        for (int i = 59; i > left; i -= 2) {
            cutAdd(x, 0, 11, 0);
        }
        return x;
    }

    /** As many pages as are said are left, and the next add, of 56, needs three. */
    static SideLinkTree marksWithPagesLeft(int left) {
        SideLinkTree x = rising(50);
        for (int i = 49; i > left; i--) {
            cutAdd(x, 0, 51, 0);
        }
        addAll(x, 51, 55);
        return x;
    }

    static void end() {
        System.out.println(wrong == 0 ? "all answers are as due" : wrong + " answers are not as due");
        if (wrong != 0) {
            System.exit(1);
        }
    }
}
