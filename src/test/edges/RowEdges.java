/** Edges of promises 2 to 5: rows. */
final class RowEdges extends Edges {
    static void run() {
        missingAtFirst();
        lanesAndSizes();
        inPlaceOfWhatIsThere();
        rowRefused();
        setCut();
        setRefused();
        copyOfAll();
        copyUponItself();
        copyRefused();
        dropped();
    }

    /** Whether an item of 0 to 9 is there: one ordinary stamp of that value pays just as much. */
    static boolean has(StampSheets x, int row, int i, int item) {
        x.value(0, item);
        return x.fits(0, 7, 0, row, i, 1) == 1023;
    }

    static StampSheets withOneStamp() {
        StampSheets x = open("w1,1,0;o0;");
        x.row(7, 0, 1);
        return x;
    }

    static void items(StampSheets x, int row, int... items) {
        for (int i = 0; i < items.length; i++) {
            due("item " + i + " of row " + row + " is " + items[i], has(x, row, i, items[i]), true);
        }
    }

    private static void missingAtFirst() {
        says("ROWS 0 .. 7 are missing (at first)");
        StampSheets x = new StampSheets();
        for (int row = 0; row < 8; row++) {
            due("set(" + row + ", 0, 0)", x.set(row, 0, 0), NULL);
            due("drop(" + row + ")", x.drop(row), NULL);
        }
        due("count(0)", x.count(0), 0);
        for (int row = 0; row < 8; row++) {
            due("row(" + row + ", 0, 0)", x.row(row, 0, 0), 0);
            due("count(0)", x.count(0), row + 1);
        }
        for (int row : new int[] {-1, 8, LOW, HIGH}) {
            due("set(" + row + ", 0, 0)", x.set(row, 0, 0), BAD);
        }
    }

    private static void lanesAndSizes() {
        says("or have a LANE (0 bytes, 1 shorts, 2 ints) and 0 to 40 ITEMS, 0 at first.");
        for (int lane = 0; lane < 3; lane++) {
            StampSheets x = withOneStamp();
            due("row(0, " + lane + ", 0)", x.row(0, lane, 0), 0);
            due("set(0, 0, 1)", x.set(0, 0, 1), PLACE);
            due("row(0, " + lane + ", 1)", x.row(0, lane, 1), 1);
            due("set(0, 0, 1)", x.set(0, 0, 1), 1);
            due("set(0, 1, 1)", x.set(0, 1, 1), PLACE);
            due("row(0, " + lane + ", 40)", x.row(0, lane, 40), 40);
            items(x, 0, new int[40]);
            due("set(0, 39, 9)", x.set(0, 39, 9), 9);
            due("set(0, 40, 9)", x.set(0, 40, 9), PLACE);
        }
    }

    private static void inPlaceOfWhatIsThere() {
        says("A ROW of a LANE with n ITEMS, in place of what is there: n.");
        StampSheets x = withOneStamp();
        fill(x, 0, 2, new int[] {1, 2, 3});
        due("row(0, 2, 3) anew", x.row(0, 2, 3), 3);
        items(x, 0, 0, 0, 0);
        fill(x, 0, 2, new int[] {1, 2, 3});
        due("fewer", x.row(0, 2, 1), 1);
        due("place 1 of 1", x.set(0, 1, 0), PLACE);
        due("more", x.row(0, 2, 40), 40);
        items(x, 0, new int[40]);
        due("another LANE", x.row(0, 0, 2), 2);
        due("a byte now", x.set(0, 1, 255), -1);
        due("count(0)", x.count(0), 2);
    }

    private static void rowRefused() {
        says("BAD: ROW, LANE, n above 40; SIZE.");
        StampSheets x = new StampSheets();
        x.row(0, 1, 7);
        for (int row : new int[] {-1, 8, LOW, HIGH}) {
            due("row(" + row + ", 0, 1)", x.row(row, 0, 1), BAD);
            due("BAD ahead of SIZE", x.row(row, 0, -1), BAD);
        }
        for (int lane : new int[] {-1, 3, LOW, HIGH}) {
            due("row(0, " + lane + ", 1)", x.row(0, lane, 1), BAD);
            due("BAD ahead of SIZE", x.row(0, lane, -1), BAD);
        }
        due("row(0, 0, 41)", x.row(0, 0, 41), BAD);
        due("row(0, 0, max)", x.row(0, 0, HIGH), BAD);
        due("status()", x.status(), 0);
        says("4 SIZE (fewer than none)");
        due("row(0, 0, -1)", x.row(0, 0, -1), SIZE);
        due("row(0, 0, min)", x.row(0, 0, LOW), SIZE);
        due("status()", x.status(), 4);
        due("row(1, 0, -1) of a missing one", x.row(1, 0, -1), SIZE);
        due("is missing yet", x.drop(1), NULL);
        due("the row is as it was", x.set(0, 6, 32768), -32768);
        due("the row is as it was", x.drop(0), 7);
    }

    private static void setCut() {
        says("ITEM i becomes v, its lowest bits, as many as the LANE has: what it is then.");
        StampSheets x = withOneStamp();
        int[][][] cut = {
            {{127, 127}, {128, -128}, {255, -1}, {256, 0}, {257, 1}, {-128, -128}, {-129, 127}, {-256, 0},
                {LOW, 0}, {HIGH, -1}, {0x12345680, -128}},
            {{32767, 32767}, {32768, -32768}, {65535, -1}, {65536, 0}, {65537, 1}, {-32768, -32768},
                {-32769, 32767}, {-65536, 0}, {LOW, 0}, {HIGH, -1}, {128, 128}, {256, 256}},
            {{LOW, LOW}, {HIGH, HIGH}, {-1, -1}, {65536, 65536}, {32768, 32768}, {128, 128}}};
        for (int lane = 0; lane < 3; lane++) {
            x.row(lane, lane, 2);
            for (int[] c : cut[lane]) {
                due("set(" + lane + ", 1, " + c[0] + ")", x.set(lane, 1, c[0]), c[1]);
            }
        }
        x.set(0, 1, 0x305);
        x.set(1, 1, 0x30006);
        x.set(2, 1, 7);
        items(x, 0, 0, 5);
        items(x, 1, 0, 6);
        items(x, 2, 0, 7);
    }

    private static void setRefused() {
        says("BAD: ROW; NULL; PLACE.");
        StampSheets x = withOneStamp();
        fill(x, 0, 2, new int[] {4, 5});
        for (int i : new int[] {-1, 2, 39, 40, LOW, HIGH}) {
            due("set(0, " + i + ", 9)", x.set(0, i, 9), PLACE);
            due("status()", x.status(), 2);
            due("NULL ahead of PLACE", x.set(1, i, 9), NULL);
            due("status()", x.status(), 1);
            due("BAD ahead of NULL, PLACE", x.set(8, i, 9), BAD);
            due("BAD ahead of NULL, PLACE", x.set(-1, i, 9), BAD);
            due("status() stays", x.status(), 1);
        }
        items(x, 0, 4, 5);
    }

    private static void copyOfAll() {
        says("n ITEMS of a from i on come to b from j on");
        StampSheets x = withOneStamp();
        fill(x, 0, 2, new int[] {1, 2, 3, 4, 5});
        fill(x, 1, 2, new int[] {6, 7, 8});
        due("of none at the ends", x.copy(0, 5, 1, 3, 0), 0);
        due("of none at the beginnings", x.copy(0, 0, 1, 0, 0), 0);
        items(x, 1, 6, 7, 8);
        due("of one, the last to the last", x.copy(0, 4, 1, 2, 1), 1);
        items(x, 1, 6, 7, 5);
        due("as many as fit", x.copy(0, 2, 1, 0, 3), 3);
        items(x, 1, 3, 4, 5);
        items(x, 0, 1, 2, 3, 4, 5);
        x.row(2, 1, 40);
        x.row(3, 1, 40);
        x.set(2, 39, 9);
        due("40 of 40", x.copy(2, 0, 3, 0, 40), 40);
        due("the last came", has(x, 3, 39, 9), true);
        due("41 of 40", x.copy(2, 0, 3, 0, 41), PLACE);
        x.row(4, 0, 0);
        due("of an empty one upon itself", x.copy(4, 0, 4, 0, 0), 0);
        due("one of an empty one", x.copy(4, 0, 4, 0, 1), PLACE);
    }

    private static void copyUponItself() {
        says("as they were ahead: n.");
        StampSheets x = withOneStamp();
        fill(x, 0, 2, new int[] {1, 2, 3, 4, 5});
        due("up", x.copy(0, 0, 0, 1, 4), 4);
        items(x, 0, 1, 1, 2, 3, 4);
        fill(x, 0, 2, new int[] {1, 2, 3, 4, 5});
        due("down", x.copy(0, 1, 0, 0, 4), 4);
        items(x, 0, 2, 3, 4, 5, 5);
        due("to the same place", x.copy(0, 0, 0, 0, 5), 5);
        items(x, 0, 2, 3, 4, 5, 5);
    }

    private static void copyRefused() {
        says("BAD: ROWS; NULL; STORE; PLACE (i, j, n below 0, or beyond an end).");
        StampSheets x = withOneStamp();
        fill(x, 0, 2, new int[] {1, 2, 3, 4, 5});
        fill(x, 1, 2, new int[] {6, 7, 8});
        int[][] places = {{3, 0, 3}, {0, 1, 3}, {0, 0, 4}, {-1, 0, 1}, {0, -1, 1}, {0, 0, -1}, {-1, -1, -1}, {6, 0, 0},
            {0, 4, 0}, {LOW, 0, 1}, {0, LOW, 1}, {0, 0, LOW}, {HIGH, 0, 1}, {0, HIGH, 1}, {1, 0, HIGH}, {0, 1, HIGH},
            {HIGH, HIGH, HIGH}, {LOW, LOW, LOW}, {LOW, 0, HIGH}, {0, LOW, HIGH}, {-1, 0, 0}, {0, -1, 0}};
        for (int[] p : places) {
            String told = p[0] + ", " + p[1] + ", " + p[2];
            due("PLACE: " + told, x.copy(0, p[0], 1, p[1], p[2]), PLACE);
        }
        due("status()", x.status(), 2);
        x.row(2, 1, 5);
        x.row(3, 0, 5);
        due("STORE", x.copy(0, 0, 2, 0, 1), STORE);
        due("STORE", x.copy(2, 0, 3, 0, 1), STORE);
        due("STORE", x.copy(3, 0, 0, 0, 0), STORE);
        due("status()", x.status(), 5);
        due("STORE ahead of PLACE", x.copy(0, 9, 2, -1, -1), STORE);
        due("NULL", x.copy(0, 0, 4, 0, 0), NULL);
        due("NULL", x.copy(4, 0, 0, 0, 0), NULL);
        due("NULL", x.copy(4, 0, 4, 0, 0), NULL);
        due("NULL ahead of STORE", x.copy(2, 0, 4, 0, 0), NULL);
        due("NULL ahead of PLACE", x.copy(4, -1, 0, 9, -1), NULL);
        for (int row : new int[] {-1, 8, LOW, HIGH}) {
            due("BAD ahead of NULL, PLACE", x.copy(row, -1, 4, 0, 0), BAD);
            due("BAD ahead of NULL, PLACE", x.copy(4, 0, row, -1, 0), BAD);
        }
        due("status()", x.status(), 1);
        items(x, 0, 1, 2, 3, 4, 5);
        items(x, 1, 6, 7, 8);
    }

    private static void dropped() {
        says("A ROW is missing from now on: how many ITEMS it had. BAD; NULL.");
        StampSheets x = withOneStamp();
        x.row(0, 0, 0);
        x.row(6, 2, 40);
        due("count(0)", x.count(0), 3);
        due("drop(0), empty", x.drop(0), 0);
        due("drop(6), full", x.drop(6), 40);
        due("count(0)", x.count(0), 1);
        due("drop(0) again", x.drop(0), NULL);
        due("set(6, 0, 0)", x.set(6, 0, 0), NULL);
        due("copy(6, 0, 6, 0, 0)", x.copy(6, 0, 6, 0, 0), NULL);
        due("who(), of it", x.who(0, 0, 6, 0, 7, 0, 1), NULL);
        for (int row : new int[] {-1, 8, LOW, HIGH}) {
            due("drop(" + row + ")", x.drop(row), BAD);
        }
        fill(x, 6, 0, new int[] {3});
        due("drop(6)", x.drop(6), 1);
        due("row(6, 0, 1) anew", x.row(6, 0, 1), 1);
        items(x, 6, 0);
    }
}
