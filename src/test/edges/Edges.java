import java.io.IOException;
import java.nio.file.Files;
import java.nio.file.Path;
import java.util.ArrayList;
import java.util.List;

/** What all tests of edges have in common: the words that are tested, answers, sheets. */
abstract class Edges {
    static final int NONE = -1000000, BAD = -1000001, STATE = -1000002, FULL = -1000003;
    static final int NULL = -1000011, PLACE = -1000012, KIND = -1000013, SIZE = -1000014, STORE = -1000015;
    static final int LOW = Integer.MIN_VALUE, HIGH = Integer.MAX_VALUE;
    /** Numbers that are below 0 or far above all that the document tells. */
    static final int[] FAR = {LOW, LOW + 1, -1, 1 << 30, HIGH - 1, HIGH};
    /**
     * o5 u2 d9
     * a3 e2 a1
     * o0 d4 u7, OVER 4: alone they pay 5 6 4, 0 5 0, 0 2 11; all by air together 13.
     */
    static final String NINE = "w3,3,4;o5;u2;d9;a3;e2;a1;o0;d4;u7;n5,9;n12,20;n0,3;";

    private static final String DOCUMENT = document();
    private static final List<int[]> QUOTED = new ArrayList<>();
    private static String sentence = "";
    private static int wrong = 0;
    private static int checks = 0;

    private static String document() {
        try {
            return plain(Files.readString(Path.of("../shared/DOC.md")));
        } catch (IOException e) {
            System.out.println("the document can't be read, so quotes are not looked up: " + e);
            return "";
        }
    }

    private static String plain(String text) {
        return text.replaceAll("```(text)?", "").replaceAll("\\s+", " ");
    }

    /** The words of the document that are tested from here on; they must stand in it. */
    static void says(String words) {
        sentence = words;
        int at = DOCUMENT.indexOf(words);
        if (at < 0 && !DOCUMENT.isEmpty()) {
            fail("does not stand in the document");
        }
        for (; at >= 0; at = DOCUMENT.indexOf(words, at + 1)) {
            QUOTED.add(new int[] {at, at + words.length()});
        }
    }

    static void fail(String why) {
        wrong++;
        System.out.println("'" + sentence + "': " + why);
    }

    static void due(String call, long got, long want) {
        checks++;
        if (got != want) {
            fail(call + " answered " + got + ", due is " + want);
        }
    }

    static void due(String what, Object got, Object want) {
        checks++;
        if (!got.equals(want)) {
            fail(what + " is " + got + ", due is " + want);
        }
    }

    static int read(StampSheets x, String text) {
        for (int i = 0; i < text.length(); i++) {
            x.feed(text.charAt(i));
        }
        return x.sheet();
    }

    static StampSheets open(String text) {
        StampSheets x = new StampSheets();
        if (read(x, text) <= 0) {
            fail("'" + text + "' is no sheet");
        }
        return x;
    }

    /** A sheet, row 0 (bytes) with cells, and row 1 (ints) with what they pay. */
    static StampSheets told(String text, int[] cells, int[] pays) {
        StampSheets x = open(text);
        fill(x, 0, 0, cells);
        fill(x, 1, 2, pays);
        return x;
    }

    static void fill(StampSheets x, int row, int lane, int[] items) {
        x.row(row, lane, items.length);
        for (int i = 0; i < items.length; i++) {
            x.set(row, i, items[i]);
        }
    }

    static void spoil(StampSheets x, int... cells) {
        for (int c : cells) {
            x.spoil(c);
        }
    }

    /** All that can be seen of what stands without a change of it: 95 calls. */
    static List<Integer> seen(StampSheets x) {
        List<Integer> all = new ArrayList<>();
        for (int what = 0; what < 8; what++) {
            all.add(x.count(what));
        }
        for (int what = 0; what < 5; what++) {
            all.add(x.stand(what));
        }
        for (int c = 0; c < 10; c++) {
            for (int what = 0; what < 4; what++) {
                all.add(x.cell(c, what));
            }
            all.add(x.kind(c));
        }
        for (int c = 0; c < 5; c++) {
            for (int what = 0; what < 3; what++) {
                all.add(x.customer(c, what));
            }
        }
        for (int i = 0; i < 16; i++) {
            all.add(x.trace(i));
        }
        all.add(x.fault());
        return all;
    }

    /** Each sentence of the terms and promises must be quoted, at least in part. */
    static void allSentencesAreQuoted() {
        if (DOCUMENT.isEmpty()) {
            return;
        }
        sentence = "the document";
        int at = DOCUMENT.indexOf("## Terms");
        int end = DOCUMENT.indexOf("## Not promised");
        if (at < 0 || end < 0) {
            fail("has neither terms nor promises");
            return;
        }
        for (String one : DOCUMENT.substring(at, end).split("(?<=[.)]) (?=[A-Z(#])")) {
            boolean aboutTheFace = one.startsWith("Ahead of the calls");
            if (!aboutTheFace && !isQuoted(at, at + one.length())) {
                fail("no test quotes: " + one);
            }
            at += one.length() + 1;
        }
    }

    private static boolean isQuoted(int from, int to) {
        for (int[] quote : QUOTED) {
            if (quote[0] < to && quote[1] > from) {
                return true;
            }
        }
        return false;
    }

    static void end() {
        System.out.println(wrong == 0 ? checks + " answers at edges are as due" : wrong + " answers are not as due");
        if (wrong != 0) {
            System.exit(1);
        }
    }
}
