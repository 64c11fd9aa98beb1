import java.util.List;

/** Edges of promises 30 and 31: what two rows tell. */
final class ToldEdges extends Edges {
    /** Ten stamps of 0 to 9, OVER 0; told from the last to the first. */
    static final String TEN = "w5,2,0;o0;o1;o2;o3;o4;o5;o6;o7;o8;o9;";
    static final int[] BACKWARDS = {9, 8, 7, 6, 5, 4, 3, 2, 1, 0};
    static final int[] SUMS = {9, 17, 24, 30, 35, 39, 42, 44, 45, 45};

    static void run() {
        oneToTen();
        fromPlacesOn();
        kinds();
        values();
        overs();
        swapped();
        whereverTheyAre();
        whoRefused();
        whoFound();
        fitsRefused();
        fitsFound();
        firstInTime();
    }

    private static void oneToTen() {
        says("Two rows tell CELLS, one behind another, and what the set of all that were told by then PAYS each time (as if it was a PIECE, wherever its STAMPS are), of n (1 to 10) ITEMS.");
        StampSheets x = told(TEN, BACKWARDS, SUMS);
        for (int n = 1; n <= 10; n++) {
            due("VALUES of cell 0 by " + n, x.who(0, 1, 0, 0, 1, 0, n), n < 10 ? 1023 : 1);
            due("VALUES of cell 9 by " + n, x.who(9, 1, 0, 0, 1, 0, n), 512);
            due("OVERS by " + n, x.fits(0, 0, 0, 1, 0, n), 1023);
            due("SWAPPED by " + n, x.fits(1, 0, 0, 1, 0, n), (10 - n) * (9 - n) / 2);
        }
        x.set(1, 9, 46);
        due("the last alone is not so", x.who(8, 1, 0, 0, 1, 0, 10), 0);
        due("the last alone is not so, but by a value", x.who(0, 1, 0, 0, 1, 0, 10), 2);
        due("the last is not asked", x.who(0, 1, 0, 0, 1, 0, 9), 1023);
        x.set(1, 9, 45);
        x.set(1, 0, 8);
        due("the first alone is not so", x.fits(0, 0, 0, 1, 0, 10), 0);
        due("from the second on, as if the first was not", x.who(9, 1, 0, 1, 1, 1, 1), 0);
    }

    private static void fromPlacesOn() {
        says("CELLS n ITEMS of a ROW from i on, PAYS n ITEMS of another one (or the same) from j on.");
        StampSheets x = open(TEN);
        int[] both = {99, 99, 9, 8, 7, 9, 17, 24, 99, 99};
        fill(x, 2, 0, both);
        due("the same, from 2 and 5 on", x.who(9, 1, 2, 2, 2, 5, 3), 512);
        due("the same, from 3 and 5 on", x.who(8, 1, 2, 3, 2, 5, 1), 512);
        due("the same, one upon another", x.who(9, 1, 2, 2, 2, 2, 1), 512);
        due("fits(), the same", x.fits(1, 2, 2, 2, 5, 3), 21);
        x.row(3, 1, 40);
        x.row(4, 2, 40);
        fillEnd(x, 3, BACKWARDS);
        fillEnd(x, 4, SUMS);
        due("the last ten of 40", x.who(0, 1, 3, 30, 4, 30, 10), 1);
        due("the last ten of 40", x.fits(0, 3, 30, 4, 30, 10), 1023);
        due("one place on", x.who(0, 1, 3, 31, 4, 30, 10), PLACE);
        due("one place on", x.who(0, 1, 3, 30, 4, 31, 10), PLACE);
        due("the last one of 40", x.who(0, 1, 3, 39, 4, 39, 1), 0);
        x.value(0, 9);
        x.set(4, 39, 9);
        due("the last one of 40", x.who(0, 1, 3, 39, 4, 39, 1), 512);
        due("beyond it", x.who(0, 1, 3, 40, 4, 39, 1), PLACE);
        due("beyond it", x.who(0, 1, 3, 39, 4, 40, 1), PLACE);
    }

    private static void fillEnd(StampSheets x, int row, int[] items) {
        for (int i = 0; i < 10; i++) {
            x.set(row, 30 + i, items[i]);
        }
    }

    private static int kindsBy(String stamp, int over, int pays) {
        return told("w1,1," + over + ";" + stamp + ";", new int[] {0}, new int[] {pays}).who(0, 0, 0, 0, 1, 0, 1);
    }

    private static void kinds() {
        says("KINDS (bits 1 to 5), VALUES (0 to 9, bits) of a STAMP by which it is so.");
        due("0 by all but an express one", kindsBy("e0", 0, 0), 2 | 4 | 8 | 16);
        due("5 by an express one", kindsBy("o0", 0, 5), 32);
        due("5 by all that pay as much", kindsBy("u5", 0, 5), 2 | 4 | 32);
        due("5 of 2 and 3", kindsBy("a2", 3, 5), 4 | 32);
        due("half of 9", kindsBy("o9", 9, 4), 8);
        due("9 and 9", kindsBy("o9", 9, 18), 4);
        due("19 by none", kindsBy("u9", 9, 19), 0);
        due("-1 by none", kindsBy("u9", 9, -1), 0);
        StampSheets x = told("w2,1,0;a2;a3;", new int[] {0, 1}, new int[] {0, 5});
        due("by air, next to another", x.who(0, 0, 0, 0, 1, 0, 2), 16);
        x.set(1, 0, 5);
        x.set(1, 1, 10);
        due("express, next to another", x.who(0, 0, 0, 0, 1, 0, 2), 32);
        // Of 1, that is by air, 3 are paid if 0 is by air, too.
        x.set(1, 0, 2);
        x.set(1, 1, 2);
        due("not by air any more", x.who(0, 0, 0, 0, 1, 0, 2), 2 | 4);
        StampSheets other = told(TEN, new int[] {0}, new int[] {0});
        due("of one that is not told", other.who(9, 0, 0, 0, 1, 0, 1), 62);
        other.set(1, 0, 1);
        due("of one that is not told", other.who(9, 0, 0, 0, 1, 0, 1), 0);
    }

    private static int valuesBy(String stamp, int over, int pays) {
        return told("w1,1," + over + ";" + stamp + ";", new int[] {0}, new int[] {pays}).who(0, 1, 0, 0, 1, 0, 1);
    }

    private static void values() {
        says("KINDS (bits 1 to 5), VALUES (0 to 9, bits) of a STAMP by which it is so.");
        due("0", valuesBy("o5", 0, 0), 1);
        due("9", valuesBy("o5", 0, 9), 512);
        due("10", valuesBy("o5", 0, 10), 0);
        due("-1", valuesBy("o5", 0, -1), 0);
        due("OVER alone", valuesBy("u5", 5, 5), 1);
        due("less than OVER", valuesBy("u5", 5, 4), 0);
        due("OVER and 9", valuesBy("u5", 5, 14), 512);
        due("OVER and 10", valuesBy("u5", 5, 15), 0);
        due("half of 0, 1", valuesBy("d5", 0, 0), 3);
        due("half of 8, 9", valuesBy("d5", 0, 4), 256 | 512);
        due("half of 10", valuesBy("d5", 0, 5), 0);
        due("by air, alone", valuesBy("a5", 0, 0), 1023);
        due("express, alone", valuesBy("e5", 0, 5), 1023);
        due("express, alone", valuesBy("e5", 0, 0), 0);
    }

    private static int oversBy(int pays) {
        return told("w1,1,5;u3;", new int[] {0}, new int[] {pays}).fits(0, 0, 0, 1, 0, 1);
    }

    private static void overs() {
        says("OVERS (0 to 9, bits) by which it is so.");
        due("by 0", oversBy(3), 1);
        due("by 9", oversBy(12), 512);
        due("by 10", oversBy(13), 0);
        due("by -1", oversBy(2), 0);
        due("by the one that is", oversBy(8), 32);
        StampSheets x = told("w3,1,5;u3;o1;u2;", new int[] {0, 1, 2}, new int[] {7, 8, 14});
        due("by 4, both times", x.fits(0, 0, 0, 1, 0, 3), 16);
        x.set(1, 2, 15);
        due("by 4, then by 5", x.fits(0, 0, 0, 1, 0, 3), 0);
        due("OVER stays", x.stand(3), 5);
    }

    private static void swapped() {
        says("SWAPPED: pairs of CELLS (the lesser first), the STAMPS of which, exchanged (SORTS, VALUES), make it so: how many; the first (10 times the one, and the other one); NONE.");
        StampSheets x = told(TEN, BACKWARDS, SUMS);
        due("none", x.fits(1, 0, 0, 1, 0, 10), 0);
        due("none", x.fits(2, 0, 0, 1, 0, 10), NONE);
        for (int i = 0; i < 9; i++) {
            // As if two cells behind one another were exchanged: the sum between them is 1 less.
            x.set(1, i, SUMS[i] - 1);
            due("one", x.fits(1, 0, 0, 1, 0, 10), 1);
            due("one", x.fits(2, 0, 0, 1, 0, 10), 10 * (8 - i) + 9 - i);
            x.set(1, i, SUMS[i]);
        }
        due("those that are not told: 45 less 9", x.fits(1, 0, 0, 1, 0, 1), 36);
        due("the first", x.fits(2, 0, 0, 1, 0, 1), 1);
        x.set(1, 0, 0);
        due("by 0 and 9 alone", x.fits(1, 0, 0, 1, 0, 1), 1);
        due("by 0 and 9 alone", x.fits(2, 0, 0, 1, 0, 1), 9);
        StampSheets sorts = told("w3,1,4;o9;u9;d9;", new int[] {0, 1}, new int[] {13, 22});
        due("SORTS, too", sorts.fits(1, 0, 0, 1, 0, 2), 1);
        due("SORTS, too", sorts.fits(2, 0, 0, 1, 0, 2), 1);
        sorts.set(1, 0, 4);
        sorts.set(1, 1, 17);
        due("SORTS, too", sorts.fits(2, 0, 0, 1, 0, 2), 2);
        due("all stays", sorts.piece(7, 0), 9 + 13 + 4);
        StampSheets alike = told("w2,1,0;o3;o3;", new int[] {0}, new int[] {3});
        due("two that are alike", alike.fits(1, 0, 0, 1, 0, 1), 1);
        StampSheets one = told("w1,1,0;o3;", new int[] {0}, new int[] {3});
        due("no pair of one", one.fits(1, 0, 0, 1, 0, 1), 0);
        due("no pair of one", one.fits(2, 0, 0, 1, 0, 1), NONE);
        StampSheets air = told("w3,1,0;o0;a2;e3;", new int[] {0, 1}, new int[] {5, 10});
        due("by air, exchanged with another", air.fits(2, 0, 0, 1, 0, 2), 2);
    }

    private static void whereverTheyAre() {
        says("(as if it was a PIECE, wherever its STAMPS are)");
        StampSheets x = told(NINE, new int[] {8, 0, 4}, new int[] {11, 16, 21});
        due("apart", x.who(0, 1, 0, 0, 1, 0, 3), 32);
        x.serve(0, 1);
        x.spoil(8);
        x.spoil(4);
        due("sold, spoilt", x.who(0, 1, 0, 0, 1, 0, 3), 32);
        due("spoilt", x.who(8, 1, 0, 0, 1, 0, 3), 128);
        due("OVERS", x.fits(0, 0, 0, 1, 0, 3), 16);
        // The pairs of the six others; and 0 with 4, that pay 5 each.
        due("SWAPPED", x.fits(1, 0, 0, 1, 0, 3), 15 + 1);
        spoil(x, 1, 2, 3, 5, 6, 7);
        due("none on the sheet", x.who(0, 0, 0, 0, 1, 0, 3), 2 | 32);
        fill(x, 0, 0, new int[] {3, 4});
        fill(x, 1, 2, new int[] {0, 10});
        due("by air, spoilt, next to one another", x.who(3, 1, 0, 0, 1, 0, 2), 8);
    }

    private static void whoRefused() {
        says("BAD: CELL, which, ROWS, n; NULL, PLACE of the CELLS' ROW");
        StampSheets x = told(TEN, BACKWARDS, SUMS);
        due("no such CELL", x.who(10, 0, 0, 0, 1, 0, 1), BAD);
        due("which of 2", x.who(0, 2, 0, 0, 1, 0, 1), BAD);
        due("no such ROW", x.who(0, 0, 8, 0, 1, 0, 1), BAD);
        due("no such other ROW", x.who(0, 0, 0, 0, 8, 0, 1), BAD);
        due("n of 0", x.who(0, 0, 0, 0, 1, 0, 0), BAD);
        due("n of 11", x.who(0, 0, 0, 0, 1, 0, 11), BAD);
        for (int far : FAR) {
            due("CELL " + far, x.who(far, 0, 0, 0, 1, 0, 1), BAD);
            due("which " + far, x.who(0, far, 0, 0, 1, 0, 1), BAD);
            due("ROW " + far, x.who(0, 0, far, 0, 1, 0, 1), BAD);
            due("other ROW " + far, x.who(0, 0, 0, 0, far, 0, 1), BAD);
            due("n " + far, x.who(0, 0, 0, 0, 1, 0, far), BAD);
        }
        due("BAD ahead of NULL", x.who(10, 0, 5, 0, 5, 0, 1), BAD);
        due("BAD ahead of PLACE", x.who(0, 0, 0, 99, 8, 0, 1), BAD);
        due("status() stays", x.status(), 0);
        due("9 of 0 .. 9", x.who(9, 1, 0, 0, 1, 0, 1), 512);
        StampSheets none = new StampSheets();
        due("no sheet", none.who(0, 0, 0, 0, 1, 0, 1), BAD);
        due("ROW 7 as both", open7().who(0, 1, 7, 0, 7, 1, 1), 2);
    }

    private static StampSheets open7() {
        StampSheets x = open("w1,1,0;o0;");
        fill(x, 7, 1, new int[] {0, 1});
        return x;
    }

    private static void whoFound() {
        says("KIND: an ITEM of it is no CELL, or was told ahead; NULL, PLACE of the other one.");
        StampSheets x = open(TEN);
        fill(x, 0, 2, new int[] {0, 9, 0, 10, -1});
        fill(x, 1, 2, new int[] {0, 9, 9});
        due("0 and 9 are CELLS", x.who(0, 1, 0, 0, 1, 0, 2), 1);
        due("told ahead, not just ahead", x.who(0, 0, 0, 0, 1, 0, 3), KIND);
        due("status()", x.status(), 3);
        due("10 is none", x.who(0, 0, 0, 3, 1, 0, 1), KIND);
        due("-1 is none", x.who(0, 0, 0, 4, 1, 0, 1), KIND);
        due("what is ahead does not count", x.who(0, 1, 0, 2, 1, 0, 1), 1);
        due("what is behind does not count", x.who(9, 1, 0, 1, 1, 1, 1), 512);
        for (int item : new int[] {LOW, LOW + 9, -32, -1, 10, 16, 31, 32, 41, 64, 255, 256, 1 << 30, HIGH}) {
            x.set(0, 0, item);
            due("an ITEM of " + item, x.who(0, 0, 0, 0, 1, 0, 1), KIND);
        }
        x.set(0, 0, 9);
        due("told just ahead", x.who(0, 0, 0, 0, 1, 0, 2), KIND);
        StampSheets one = open("w1,1,0;o0;");
        fill(one, 0, 0, new int[] {1});
        due("of one stamp there is no CELL 1", one.who(0, 0, 0, 0, 0, 0, 1), KIND);
    }

    private static void fitsRefused() {
        says("OVERS (which = 0), SWAPPED (1 how many, 2 the first; NONE), likewise. BAD: which, ROWS, n; STATE: no SHEET (ahead of BAD); FINDINGS likewise.");
        StampSheets x = told(TEN, BACKWARDS, SUMS);
        due("which of 3", x.fits(3, 0, 0, 1, 0, 1), BAD);
        due("no such ROW", x.fits(0, 8, 0, 1, 0, 1), BAD);
        due("no such other ROW", x.fits(0, 0, 0, 8, 0, 1), BAD);
        due("n of 0", x.fits(0, 0, 0, 1, 0, 0), BAD);
        due("n of 11", x.fits(0, 0, 0, 1, 0, 11), BAD);
        for (int far : FAR) {
            due("which " + far, x.fits(far, 0, 0, 1, 0, 1), BAD);
            due("ROW " + far, x.fits(0, far, 0, 1, 0, 1), BAD);
            due("other ROW " + far, x.fits(0, 0, 0, far, 0, 1), BAD);
            due("n " + far, x.fits(0, 0, 0, 1, 0, far), BAD);
        }
        due("BAD ahead of NULL", x.fits(3, 5, 0, 5, 0, 1), BAD);
        due("status() stays", x.status(), 0);
        StampSheets none = new StampSheets();
        due("no sheet", none.fits(0, 0, 0, 1, 0, 1), STATE);
        due("no sheet, all BAD", none.fits(3, 8, 0, -1, 0, 0), STATE);
        fill(none, 0, 0, new int[] {0});
        due("no sheet, though ROWS are there", none.fits(0, 0, 0, 0, 0, 1), STATE);
        due("status() stays", none.status(), 0);
    }

    private static void fitsFound() {
        says("STATE: no SHEET (ahead of BAD); FINDINGS likewise.");
        for (int which = 0; which < 3; which++) {
            StampSheets x = told(TEN, BACKWARDS, SUMS);
            due("NULL", x.fits(which, 5, 0, 1, 0, 1), NULL);
            due("status()", x.status(), 1);
            due("PLACE", x.fits(which, 0, 1, 1, 0, 10), PLACE);
            due("status()", x.status(), 2);
            due("NULL of the other one", x.fits(which, 0, 0, 5, 0, 1), NULL);
            due("PLACE of the other one", x.fits(which, 0, 0, 1, 10, 1), PLACE);
            x.set(0, 9, 9);
            due("KIND, told ahead", x.fits(which, 0, 0, 1, 0, 10), KIND);
            due("status()", x.status(), 3);
            x.set(0, 9, 10);
            due("KIND, no CELL", x.fits(which, 0, 0, 1, 0, 10), KIND);
            due("status() when it is fine", x.fits(which, 0, 0, 1, 0, 9) == KIND ? 1 : x.status(), 0);
        }
    }

    private static void firstInTime() {
        says("then FINDINGS, of several the first in time");
        StampSheets x = told(TEN, new int[] {0, 1, 1, 99}, new int[] {0, 1});
        for (int i : new int[] {-1, 3, 4, 5, LOW, HIGH, HIGH - 1}) {
            due("PLACE " + i + " ahead of KIND, NULL", x.who(0, 0, 0, i, 5, 0, 2), PLACE);
        }
        due("NULL ahead of PLACE", x.who(0, 0, 5, -1, 1, -1, 2), NULL);
        due("KIND ahead of NULL", x.who(0, 0, 0, 1, 5, 0, 2), KIND);
        due("KIND ahead of PLACE", x.who(0, 0, 0, 2, 1, 9, 2), KIND);
        due("NULL of the other", x.who(0, 0, 0, 0, 5, -1, 2), NULL);
        for (int j : new int[] {-1, 1, 2, 3, LOW, HIGH, HIGH - 1}) {
            due("PLACE " + j + " of the other", x.who(0, 0, 0, 0, 1, j, 2), PLACE);
        }
        due("the last places", x.who(1, 1, 0, 0, 1, 0, 2), 2);
        due("status()", x.status(), 0);
        List<Integer> before = seen(x);
        x.who(0, 0, 0, 2, 1, 9, 2);
        due("found, nothing changes", seen(x), before);
        due("but status()", x.status(), 3);
    }
}
