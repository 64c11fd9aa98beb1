import java.util.List;
import java.util.TreeSet;

/** Edges of promises 18 to 29: what is foretold of pieces, customers and ways. */
final class ForetoldEdges extends Edges {
    static void run() {
        nothingChanges();
        ofAPiece();
        partsOfTheSheet();
        piecesAndHowMany();
        straightOnes();
        sumsPaid();
        sumsAtTheEnds();
        best();
        bestRefused();
        howMany();
        thrift();
        thriftRefused();
        servingMost();
        servingRows();
        servingRefused();
        couples();
        parting();
        partingRefused();
        wayAndFirstStep();
        wayRefused();
        lone();
    }

    private static void nothingChanges() {
        says("FORETOLD (nothing changes).");
        StampSheets x = told(NINE, new int[] {0, 1, 2}, new int[] {5, 11, 15});
        x.spoil(8);
        x.serve(1, 56);
        List<Integer> before = seen(x);
        x.piece(7, 3);
        x.parts(0);
        x.pieces(2, 2);
        x.sums(1);
        x.best(0, 0);
        x.ways(0);
        x.thrift(0, 0);
        x.serving(0);
        x.couples();
        x.parting(0, 2, 1);
        x.way(0, 2, 1);
        x.lone();
        x.who(0, 0, 0, 0, 1, 0, 3);
        x.who(0, 1, 0, 0, 1, 0, 3);
        x.fits(0, 0, 0, 1, 0, 3);
        x.fits(1, 0, 0, 1, 0, 3);
        x.wrong(1, 0, 5, 0);
        x.drawn(60, 77, 1);
        due("what is seen", seen(x), before);
        due("what pieces pay", x.piece(7, 0), 15);
        due("undo()", x.undo(), 1);
        due("what pieces pay", x.piece(56, 0), 13);
    }

    private static void ofAPiece() {
        says("Of a PIECE: what it PAYS (0), TEARS (1), how many STAMPS (2), PARTS of THE SHEET, were it torn off (3). BAD.");
        StampSheets x = open(NINE);
        int[][] wants = {{511, 41, 0, 9, 0}, {1, 5, 2, 1, 1}, {16, 5, 4, 1, 1}, {56, 13, 6, 3, 2}, {186, 21, 8, 5, 4},
            {495, 28, 4, 8, 1}};
        for (int[] w : wants) {
            for (int what = 0; what < 4; what++) {
                due("piece(" + w[0] + ", " + what + ")", x.piece(w[0], what), w[1 + what]);
            }
        }
        due("piece(1, 4)", x.piece(1, 4), BAD);
        for (int far : FAR) {
            due("piece(1, " + far + ")", x.piece(1, far), BAD);
        }
        x.serve(1, 56);
        due("the others are not torn off", x.piece(2, 3), 3);
        due("a part of two", x.piece(7, 3), 1);
        x.spoil(0);
        due("not the spoilt one", x.piece(2, 3), 2);
        StampSheets one = open("w1,1,0;o7;");
        due("the only one", one.piece(1, 3), 0);
        due("the only one", one.piece(1, 2), 1);
    }

    private static void partsOfTheSheet() {
        says("PARTS of THE SHEET: its largest PIECES, by the least CELL of each: how many; the k-th (bits).");
        StampSheets x = open(NINE);
        due("one", x.parts(-1), 1);
        due("one", x.parts(0), 511);
        spoil(x, 1, 4, 5);
        due("two", x.parts(-1), 2);
        due("that of cell 0 first", x.parts(0), 1 | 8 | 64 | 128 | 256);
        due("that of cell 2 then", x.parts(1), 4);
        StampSheets y = open("w5,2,0;" + "o0;".repeat(10));
        spoil(y, 1, 3, 5, 7, 9);
        due("five", y.parts(-1), 5);
        int[] each = {1, 4, 16, 64, 256};
        for (int k = 0; k < 5; k++) {
            due("parts(" + k + ")", y.parts(k), each[k]);
        }
        says("PARTS: how many (k = -1), the k-th (0 on; NONE: not so many). BAD: k below -1; STATE: no SHEET (ahead of BAD).");
        due("not so many", y.parts(5), NONE);
        due("not so many", y.parts(10), NONE);
        due("not so many", y.parts(HIGH), NONE);
        due("below -1", y.parts(-2), BAD);
        due("below -1", y.parts(LOW), BAD);
        spoil(y, 0, 2, 4, 6, 8);
        due("no stamps", y.parts(-1), 0);
        due("no stamps", y.parts(0), NONE);
        StampSheets none = new StampSheets();
        for (int k : new int[] {-2, -1, 0, LOW, HIGH}) {
            due("no sheet, parts(" + k + ")", none.parts(k), STATE);
        }
    }

    private static void piecesAndHowMany() {
        says("PIECES: how many there are; how many of n STAMPS; how many of n STAMPS all in one row, or all in one column.");
        StampSheets x = open("w5,2,0;" + "o0;".repeat(10));
        due("the most that there are", x.pieces(1, 0), 275);
        due("whatever n", x.pieces(10, 0), 275);
        due("of 1", x.pieces(1, 1), 10);
        due("of 9: without any one", x.pieces(9, 1), 10);
        due("of 10", x.pieces(10, 1), 1);
        StampSheets y = open(NINE);
        y.spoil(4);
        due("of a ring", y.pieces(1, 0), 8 * 7 + 1);
        for (int n = 1; n <= 10; n++) {
            due("of " + n + " of a ring", y.pieces(n, 1), n < 8 ? 8 : n == 8 ? 1 : 0);
        }
        y.serve(0, 1);
        due("of a strip of 7", y.pieces(7, 0), 28);
        due("of 6 of a strip of 7", y.pieces(6, 1), 2);
        StampSheets one = open("w1,1,0;o0;");
        due("one", one.pieces(10, 0), 1);
        one.spoil(0);
        due("none", one.pieces(1, 0), 0);
        due("none", one.pieces(1, 1), 0);
        due("none", one.pieces(1, 2), 0);
        says("PIECES: all (what = 0), of n (1), straight ones of n (2). BAD: n (1 to 10), what; STATE: no SHEET (ahead of BAD).");
        for (int what = 0; what < 3; what++) {
            due("n of 0", x.pieces(0, what), BAD);
            due("n of 11", x.pieces(11, what), BAD);
        }
        due("what of 3", x.pieces(1, 3), BAD);
        for (int far : FAR) {
            due("pieces(" + far + ", 0)", x.pieces(far, 0), BAD);
            due("pieces(1, " + far + ")", x.pieces(1, far), BAD);
        }
        StampSheets none = new StampSheets();
        due("no sheet", none.pieces(1, 0), STATE);
        due("no sheet", none.pieces(0, 0), STATE);
        due("no sheet", none.pieces(11, 3), STATE);
    }

    private static void straightOnes() {
        says("how many of n STAMPS all in one row, or all in one column.");
        int[][] wants = {{5, 2, 10, 13, 6, 4, 2, 0}, {2, 5, 10, 13, 6, 4, 2, 0}, {6, 1, 6, 5, 4, 3, 2, 1},
            {1, 6, 6, 5, 4, 3, 2, 1}, {3, 3, 9, 12, 6, 0, 0, 0}};
        for (int[] w : wants) {
            StampSheets x = open("w" + w[0] + "," + w[1] + ",0;" + "o0;".repeat(w[0] * w[1]));
            for (int n = 1; n <= 6; n++) {
                due("of " + n + " of " + w[0] + " by " + w[1], x.pieces(n, 2), w[1 + n]);
            }
            due("of 10", x.pieces(10, 2), 0);
        }
        StampSheets y = open(NINE);
        y.spoil(4);
        due("of 3, without the middle", y.pieces(3, 2), 4);
    }

    private static TreeSet<Integer> allThatIsPaid(String text) {
        TreeSet<Integer> paid = new TreeSet<>();
        StampSheets x = null;
        for (int set = 1; set < 1024; set++) {
            // An object is used for so many calls alone.
            x = set % 256 == 1 ? open(text) : x;
            int pays = x.piece(set, 0);
            if (pays != BAD) {
                paid.add(pays);
            }
        }
        return paid;
    }

    private static int firstMissing(TreeSet<Integer> paid) {
        for (int sum = 0; sum < 100; sum++) {
            if (!paid.contains(sum)) {
                return sum;
            }
        }
        return NONE;
    }

    private static void sumsPaid() {
        says("SUMS that PIECES PAY, 0 to 99: how many; the least from 0 on that none PAYS (NONE: all); the greatest that one PAYS, of any PIECE (0: there is none).");
        // Of these one pays 99 and 100, one all of 0 to 99 and no more, one all of 0 to 98 and 111 at most.
        String[] texts = {"w3,2,0;e9;e9;o7;e9;e9;o1;", "w5,2,6;e9;e3;e6;e9;e5;u1;d7;a5;d2;d5;",
            "w5,2,1;e9;u1;o1;e9;u3;e9;e4;e7;a4;e4;", NINE, "w1,1,9;u9;"};
        for (String text : texts) {
            TreeSet<Integer> paid = allThatIsPaid(text);
            StampSheets x = open(text);
            due("how many", x.sums(0), paid.headSet(100).size());
            due("the least that none pays", x.sums(1), firstMissing(paid));
            due("the greatest", x.sums(2), (int) paid.last());
        }
        due("99 and 100 are paid", allThatIsPaid(texts[0]).tailSet(99).toString().equals("[99, 100]") ? 1 : 0, 1);
    }

    private static void sumsAtTheEnds() {
        says("SUMS: how many (what = 0), the least that none PAYS (1; NONE), the greatest (2). BAD; STATE: no SHEET (ahead of BAD).");
        StampSheets all = open("w5,2,6;e9;e3;e6;e9;e5;u1;d7;a5;d2;d5;");
        due("all: how many", all.sums(0), 100);
        due("all: NONE", all.sums(1), NONE);
        due("all: the greatest", all.sums(2), 99);
        StampSheets butOne = open("w5,2,1;e9;u1;o1;e9;u3;e9;e4;e7;a4;e4;");
        due("all but 99: how many", butOne.sums(0), 99);
        due("all but 99", butOne.sums(1), 99);
        due("all but 99: the greatest", butOne.sums(2), 111);
        StampSheets x = open("w2,1,0;o0;o1;");
        due("0 and 1", x.sums(0), 2);
        due("0 and 1", x.sums(1), 2);
        due("0 and 1", x.sums(2), 1);
        x.spoil(0);
        due("not 0", x.sums(1), 0);
        due("not 0", x.sums(0), 1);
        x.spoil(1);
        due("there is none", x.sums(0), 0);
        due("there is none", x.sums(1), 0);
        due("there is none", x.sums(2), 0);
        due("sums(3)", x.sums(3), BAD);
        for (int far : FAR) {
            due("sums(" + far + ")", x.sums(far), BAD);
            due("no sheet", new StampSheets().sums(far), STATE);
        }
        due("no sheet", new StampSheets().sums(0), STATE);
        due("no sheet", new StampSheets().sums(3), STATE);
    }

    private static void best(String text, int piece, int tears) {
        StampSheets x = open(text);
        due("best(0, 0) of '" + text + "'", x.best(0, 0), piece);
        due("best(0, 1) of '" + text + "'", x.best(0, 1), tears);
    }

    private static void best() {
        says("BEST for a CUSTOMER: a PIECE by which one could be SERVED now, of those with fewest TEARS, of these with fewest STAMPS, of these the least (bits): which; its TEARS; NONE.");
        best("w4,1,0;o1;o2;o3;o9;n3,3;", 3, 1);
        best("w4,1,0;o9;o3;o2;o1;n3,3;", 12, 1);
        best("w3,1,0;o0;o2;o2;n2,2;", 4, 1);
        best("w3,1,0;o2;o0;o2;n2,2;", 1, 1);
        best("w2,2,0;o2;o2;o2;o2;n2,2;", 1, 2);
        best("w2,2,0;o2;o2;o2;o2;n4,4;", 3, 2);
        best("w3,1,0;o1;o1;o1;n0,99;", 7, 0);
        best("w1,1,0;o5;n5,5;", 1, 0);
        best("w1,1,0;o5;n6,6;", NONE, NONE);
        best("w1,1,0;o5;n4,4;", NONE, NONE);
        StampSheets x = open("w3,1,0;o0;o2;o2;n2,2;n2,2;n9,9;");
        x.spoil(2);
        due("now", x.best(0, 0), 3);
        x.spoil(0);
        due("now", x.best(0, 0), 2);
        due("now", x.best(0, 1), 0);
        x.serve(1, 2);
        due("no stamps", x.best(0, 0), NONE);
        due("no stamps", x.best(0, 1), NONE);
    }

    private static void bestRefused() {
        says("BEST: which (what = 0), TEARS (1); NONE. BAD; STATE: one is SERVED.");
        StampSheets x = open(NINE);
        due("no such customer", x.best(3, 0), BAD);
        due("what of 2", x.best(0, 2), BAD);
        for (int far : FAR) {
            due("best(" + far + ", 0)", x.best(far, 0), BAD);
            due("best(0, " + far + ")", x.best(0, far), BAD);
        }
        x.serve(0, 1);
        due("one is SERVED", x.best(0, 0), STATE);
        due("one is SERVED", x.best(0, 1), STATE);
        due("BAD ahead of STATE", x.best(0, 2), BAD);
        due("another is not", x.best(2, 1), 2);
        x.bringBack(0);
        due("not any more", x.best(0, 0), 1);
        due("no sheet", new StampSheets().best(0, 0), BAD);
        due("no customers", open("w1,1,0;o0;").best(0, 0), BAD);
    }

    private static void howMany() {
        says("HOW MANY PIECES one could be SERVED by.");
        String ten = "w5,2,0;" + "o1;".repeat(10);
        due("all", open(ten + "n1,10;").ways(0), 275);
        due("all", open(ten + "n0,99;").ways(0), 275);
        due("of 1", open(ten + "n0,1;").ways(0), 10);
        due("of 10", open(ten + "n10,99;").ways(0), 1);
        due("none", open(ten + "n0,0;").ways(0), 0);
        due("none", open(ten + "n11,99;").ways(0), 0);
        says("HOW MANY. BAD; STATE: one is SERVED.");
        StampSheets x = open(ten + "n1,1;n1,1;");
        x.serve(0, 1);
        due("one is SERVED", x.ways(0), STATE);
        due("of those left", x.ways(1), 9);
        spoil(x, 1, 2, 3, 4, 5, 6, 7, 8, 9);
        due("of none", x.ways(1), 0);
        due("no such customer", x.ways(2), BAD);
        for (int far : FAR) {
            due("ways(" + far + ")", x.ways(far), BAD);
        }
        due("no sheet", new StampSheets().ways(0), BAD);
    }

    private static void thrift(String text, int piece, int pays) {
        StampSheets x = open(text);
        due("thrift(0, 0) of '" + text + "'", x.thrift(0, 0), piece);
        due("thrift(0, 1) of '" + text + "'", x.thrift(0, 1), pays);
    }

    private static void thrift() {
        says("THRIFT for a CUSTOMER: of such PIECES the one that PAYS least, of these the least (bits): which; how much; NONE.");
        // The one that pays least has more TEARS; the least of the bits has more TEARS, more STAMPS.
        thrift("w3,1,0;o2;o1;o2;n1,5;", 2, 1);
        thrift("w3,1,0;o9;o1;o1;n1,1;", 2, 1);
        thrift("w3,1,0;a1;a1;o2;n2,2;", 3, 2);
        thrift("w3,1,0;o2;o1;o2;n2,5;", 1, 2);
        thrift("w3,1,0;o2;o1;o2;n4,5;", 7, 5);
        thrift("w1,1,0;o0;n0,0;", 1, 0);
        thrift("w5,2,0;" + "o1;".repeat(10) + "n10,10;", 1023, 10);
        thrift("w5,2,0;" + "o1;".repeat(10) + "n11,99;", NONE, NONE);
        thrift("w1,1,0;o5;n4,4;", NONE, NONE);
        thrift("w1,1,0;o5;n6,6;", NONE, NONE);
    }

    private static void thriftRefused() {
        says("THRIFT: which (what = 0), how much (1); NONE. BAD; STATE: one is SERVED.");
        StampSheets x = open(NINE);
        due("no such customer", x.thrift(3, 0), BAD);
        due("what of 2", x.thrift(0, 2), BAD);
        for (int far : FAR) {
            due("thrift(" + far + ", 0)", x.thrift(far, 0), BAD);
            due("thrift(0, " + far + ")", x.thrift(0, far), BAD);
        }
        x.serve(0, 1);
        due("one is SERVED", x.thrift(0, 0), STATE);
        due("one is SERVED", x.thrift(0, 1), STATE);
        due("BAD ahead of STATE", x.thrift(0, 2), BAD);
        due("of those left", x.thrift(2, 0), 8);
        spoil(x, 1, 2, 3, 4, 5, 6, 7, 8);
        due("of none", x.thrift(2, 0), NONE);
        due("no sheet", new StampSheets().thrift(0, 0), BAD);
    }

    private static void serving(String text, int many, int who, int... pieces) {
        StampSheets x = open(text);
        due("serving(-1) of '" + text + "'", x.serving(-1), many);
        due("serving(-2) of '" + text + "'", x.serving(-2), who);
        for (int k = 0; k < pieces.length; k++) {
            due("serving(" + k + ") of '" + text + "'", x.serving(k), pieces[k]);
        }
        due("serving(" + pieces.length + ") of '" + text + "'", x.serving(pieces.length), BAD);
    }

    private static void servingMost() {
        says("the most who can be: how many; who (bits; of several such sets the least)");
        serving("w1,1,0;o1;", 0, 0);
        serving("w1,1,0;o1;n2,2;", 0, 0, 0);
        serving("w1,1,0;o1;n1,1;n1,1;", 1, 1, 1, 0);
        serving("w1,1,0;o1;n2,2;n1,1;n1,1;", 1, 2, 0, 1, 0);
        serving("w2,1,0;o1;o2;n1,1;n1,1;n2,2;", 2, 5, 1, 0, 2);
        // 0 and 1 exclude one another and all else; 2, 3 and 4 are more.
        serving("w3,1,0;o1;o2;o4;n7,7;n7,7;n1,1;n2,2;n4,4;", 3, 28, 0, 0, 1, 2, 4);
        serving("w5,1,0;" + "o1;".repeat(5) + "n1,5;".repeat(5), 5, 31, 1, 2, 4, 8, 16);
        serving("w2,2,0;" + "o1;".repeat(4) + "n1,5;".repeat(5), 4, 15, 1, 2, 4, 8, 0);
        serving("w5,2,0;" + "o1;".repeat(10) + "n2,2;".repeat(5), 5, 31, 3, 12, 96, 384, 16 | 512);
        // What pays as much, but does not hang together, is no PIECE.
        serving("w3,1,0;o1;o5;o1;n2,2;", 0, 0, 0);
        serving("w2,2,0;o1;o5;o5;o1;n2,2;n2,2;n10,10;", 0, 0, 0, 0, 0);
        says("CUSTOMERS who are not SERVED, each by a PIECE of THE SHEET, no CELL of two (all at once, TEARS aside)");
        StampSheets x = open("w3,1,0;o1;o2;o1;n1,1;n2,2;n1,1;n3,4;");
        due("three", x.serving(-2), 7);
        x.serve(0, 1);
        due("but who is SERVED", x.serving(-2), 6);
        due("who is SERVED", x.serving(0), 0);
        due("of the others", x.serving(1), 2);
        due("of the others", x.serving(2), 4);
        x.spoil(1);
        due("but what is spoilt", x.serving(-2), 4);
        x.serve(2, 4);
        due("no stamps", x.serving(-1), 0);
        due("no stamps", x.serving(-2), 0);
        due("no stamps", x.serving(3), 0);
    }

    private static void servingRows() {
        says("the PIECES of these, of all rows (by CUSTOMERS, the least bits first) the first: the one of a CUSTOMER (0: not of these).");
        // The least piece for the first would leave none for the second.
        serving("w2,1,0;o1;o2;n1,2;n1,1;", 2, 3, 2, 1);
        serving("w3,1,0;o1;o1;o2;n1,2;n2,2;", 2, 3, 1, 4);
        serving("w3,1,0;o1;o1;o2;n1,2;n2,2;n1,1;", 3, 7, 1, 4, 2);
        serving("w3,1,0;o1;o1;o3;n1,3;n1,2;n1,1;", 3, 7, 4, 1, 2);
        serving("w4,1,0;o1;o1;o1;o1;n2,2;n1,1;n1,1;", 3, 7, 3, 4, 8);
        serving("w4,1,0;o1;o1;o1;o1;n1,1;n2,2;n1,1;", 3, 7, 1, 6, 8);
        serving("w4,1,0;o1;o1;o1;o1;n1,1;n1,1;n2,2;", 3, 7, 1, 2, 12);
        serving("w4,1,0;o2;o1;o1;o2;n1,1;n4,4;n2,3;", 2, 5, 2, 0, 1);
    }

    private static void servingRefused() {
        says("SERVE: how many (k = -1), who (k = -2), the PIECE of a CUSTOMER (0 on). BAD: no such CUSTOMER, k below -2; STATE: no SHEET (ahead of BAD).");
        StampSheets x = open(NINE);
        due("no such customer", x.serving(3), BAD);
        due("no such customer", x.serving(5), BAD);
        due("no such customer", x.serving(HIGH), BAD);
        due("below -2", x.serving(-3), BAD);
        due("below -2", x.serving(LOW), BAD);
        StampSheets none = new StampSheets();
        for (int k : new int[] {-3, -2, -1, 0, 5, LOW, HIGH}) {
            due("no sheet, serving(" + k + ")", none.serving(k), STATE);
        }
    }

    private static void couples() {
        says("COUPLES: in how many ways all STAMPS of THE SHEET can be parted into twos of NEXT ones (1, if there are none).");
        int[] twoHigh = {1, 2, 3, 5, 8};
        for (int n = 1; n <= 5; n++) {
            due("2 by " + n, open("w2," + n + ",0;" + "o0;".repeat(2 * n)).couples(), twoHigh[n - 1]);
            due(n + " by 2", open("w" + n + ",2,0;" + "o0;".repeat(2 * n)).couples(), twoHigh[n - 1]);
        }
        for (int n = 1; n <= 6; n++) {
            due("a strip of " + n, open("w" + n + ",1,0;" + "o0;".repeat(n)).couples(), n % 2 == 0 ? 1 : 0);
        }
        StampSheets x = open(NINE);
        due("nine", x.couples(), 0);
        x.spoil(4);
        due("a ring of eight", x.couples(), 2);
        StampSheets corner = open(NINE);
        corner.spoil(0);
        due("nine less a corner", corner.couples(), 4);
        StampSheets side = open(NINE);
        side.spoil(1);
        due("nine less one at a side", side.couples(), 0);
        StampSheets apart = open("w5,1,0;" + "o0;".repeat(5));
        apart.spoil(1);
        due("one and three", apart.couples(), 0);
        says("COUPLES. STATE: no SHEET.");
        spoil(apart, 0, 2, 3, 4);
        due("there are none", apart.couples(), 1);
        StampSheets one = open("w1,1,0;o1;n1,1;");
        one.serving(-1);
        due("one, whatever was asked ahead", one.couples(), 0);
        due("no sheet", new StampSheets().couples(), STATE);
    }

    private static void parting(StampSheets x, int cell, int other, int many, int side) {
        due("parting(" + cell + ", " + other + ", 0)", x.parting(cell, other, 0), many);
        due("parting(" + cell + ", " + other + ", 1)", x.parting(cell, other, 1), side);
    }

    private static void parting() {
        says("PART of two CELLS on THE SHEET: the fewest perforations (pairs of NEXT CELLS, both with STAMPS on THE SHEET) by which, torn, they are not of one PIECE: how many; on the side of the first all CELLS (bits), of several such sets the least.");
        StampSheets strip = open("w4,1,0;o0;o0;o0;o0;");
        parting(strip, 0, 3, 1, 1);
        parting(strip, 3, 0, 1, 8);
        parting(strip, 1, 2, 1, 3);
        parting(strip, 2, 1, 1, 12);
        parting(strip, 1, 3, 1, 3);
        StampSheets four = open("w2,2,0;o0;o0;o0;o0;");
        parting(four, 0, 3, 2, 1);
        parting(four, 3, 0, 2, 8);
        parting(four, 2, 1, 2, 4);
        StampSheets ten = open("w5,2,0;" + "o1;".repeat(10));
        parting(ten, 0, 9, 2, 1);
        parting(ten, 2, 7, 3, 4);
        parting(ten, 7, 2, 3, 128);
        parting(ten, 1, 2, 2, 0b00011_00011);
        parting(ten, 9, 8, 2, 512);
        StampSheets x = open(NINE);
        parting(x, 4, 0, 2, 510);
        parting(x, 0, 4, 2, 1);
        parting(x, 4, 1, 3, 504);
        parting(x, 1, 4, 3, 2);
        parting(x, 8, 0, 2, 256);
        x.spoil(1);
        parting(x, 4, 0, 1, 508);
        x.serve(1, 56);
        says("by which, torn, they are not of one PIECE: how many; on the side of the first all CELLS (bits)");
        parting(x, 0, 2, 0, 1);
        parting(x, 8, 2, 0, 448);
        parting(x, 2, 7, 0, 4);
        parting(x, 6, 8, 1, 64);
    }

    private static void partingRefused() {
        says("PART: how many (what = 0), which (1). BAD: alike, too; STATE: one of them is not on THE SHEET.");
        StampSheets x = open(NINE);
        for (int c = 0; c < 9; c++) {
            due("alike", x.parting(c, c, 0), BAD);
        }
        due("no such cell", x.parting(0, 9, 0), BAD);
        due("no such cell", x.parting(9, 0, 0), BAD);
        due("what of 2", x.parting(0, 1, 2), BAD);
        for (int far : FAR) {
            due("parting(" + far + ", 0, 0)", x.parting(far, 0, 0), BAD);
            due("parting(0, " + far + ", 0)", x.parting(0, far, 0), BAD);
            due("parting(0, 1, " + far + ")", x.parting(0, 1, far), BAD);
        }
        x.spoil(4);
        x.serve(0, 1);
        due("spoilt", x.parting(4, 8, 0), STATE);
        due("spoilt", x.parting(8, 4, 1), STATE);
        due("sold", x.parting(0, 8, 1), STATE);
        due("sold", x.parting(8, 0, 0), STATE);
        due("BAD ahead of STATE: alike", x.parting(4, 4, 0), BAD);
        due("BAD ahead of STATE: what", x.parting(4, 8, 2), BAD);
        due("no sheet", new StampSheets().parting(0, 1, 0), BAD);
        due("one alone", open("w1,1,0;o0;").parting(0, 1, 0), BAD);
    }

    private static void way(StampSheets x, int cell, int other, int steps, int first) {
        due("way(" + cell + ", " + other + ", 0)", x.way(cell, other, 0), steps);
        due("way(" + cell + ", " + other + ", 1)", x.way(cell, other, 1), first);
    }

    private static void wayAndFirstStep() {
        says("WAY of two CELLS on THE SHEET: how many steps by NEXT ones from one to the other; the CELL the first step leads to, of several the least; NONE: there is none.");
        StampSheets x = open(NINE);
        way(x, 0, 1, 1, 1);
        way(x, 1, 0, 1, 0);
        way(x, 0, 8, 4, 1);
        way(x, 8, 0, 4, 5);
        way(x, 4, 0, 2, 1);
        way(x, 4, 8, 2, 5);
        way(x, 2, 6, 4, 1);
        way(x, 6, 2, 4, 3);
        way(x, 1, 7, 2, 4);
        way(x, 8, 4, 2, 5);
        way(x, 6, 4, 2, 3);
        way(x, 7, 4, 1, 4);
        x.spoil(4);
        way(x, 1, 7, 4, 0);
        way(x, 5, 3, 4, 2);
        x.spoil(1);
        way(x, 0, 2, 6, 3);
        way(x, 2, 0, 6, 5);
        way(x, 7, 2, 3, 8);
        x.spoil(7);
        way(x, 0, 2, NONE, NONE);
        way(x, 8, 6, NONE, NONE);
        way(x, 2, 8, 2, 5);
        StampSheets strip = open("w1,6,0;" + "o0;".repeat(6));
        way(strip, 0, 5, 5, 1);
        way(strip, 5, 0, 5, 4);
        StampSheets ends = open("w2,5,0;" + "o0;".repeat(10));
        spoil(ends, 2, 7);
        way(ends, 0, 8, 6, 1);
        way(ends, 8, 0, 6, 6);
        StampSheets apart = open("w2,1,0;o1;o2;n1,1;");
        way(apart, 1, 0, 1, 0);
    }

    private static void wayRefused() {
        says("WAY: how many (what = 0), the first step (1); NONE. BAD: alike, too; STATE: one of them is not on THE SHEET.");
        StampSheets x = open(NINE);
        for (int c = 0; c < 9; c++) {
            due("alike", x.way(c, c, 0), BAD);
        }
        due("no such cell", x.way(0, 9, 0), BAD);
        due("no such cell", x.way(9, 0, 0), BAD);
        due("what of 2", x.way(0, 1, 2), BAD);
        for (int far : FAR) {
            due("way(" + far + ", 0, 0)", x.way(far, 0, 0), BAD);
            due("way(0, " + far + ", 0)", x.way(0, far, 0), BAD);
            due("way(0, 1, " + far + ")", x.way(0, 1, far), BAD);
        }
        x.spoil(4);
        x.serve(0, 1);
        due("spoilt", x.way(4, 8, 0), STATE);
        due("spoilt", x.way(8, 4, 1), STATE);
        due("sold", x.way(0, 8, 1), STATE);
        due("sold", x.way(8, 0, 0), STATE);
        due("BAD ahead of STATE: alike", x.way(4, 4, 0), BAD);
        due("BAD ahead of STATE: what", x.way(4, 8, 2), BAD);
        due("no sheet", new StampSheets().way(0, 1, 0), BAD);
    }

    private static void lone() {
        says("LONE: STAMPS (bits) that alone keep a part together: without which there would be more PARTS of the others than there are now.");
        due("one", open("w1,1,0;o0;").lone(), 0);
        due("two", open("w2,1,0;o0;o0;").lone(), 0);
        due("three", open("w3,1,0;o0;o0;o0;").lone(), 2);
        due("six", open("w6,1,0;" + "o0;".repeat(6)).lone(), 30);
        due("four in a square", open("w2,2,0;o0;o0;o0;o0;").lone(), 0);
        StampSheets x = open(NINE);
        due("nine", x.lone(), 0);
        spoil(x, 0, 2, 6, 8);
        due("a plus", x.lone(), 16);
        x.spoil(4);
        due("four alone", x.lone(), 0);
        StampSheets y = open(NINE);
        y.spoil(4);
        due("a ring", y.lone(), 0);
        y.serve(0, 1);
        due("a ring that is open: all but its ends", y.lone(), 4 | 32 | 64 | 128 | 256);
        says("LONE. STATE: no SHEET.");
        StampSheets cellZero = open("w2,2,0;o0;o0;o0;o0;");
        cellZero.spoil(3);
        due("cell 0, too", cellZero.lone(), 1);
        StampSheets nobody = open("w1,1,0;o0;");
        nobody.spoil(0);
        due("no stamps", nobody.lone(), 0);
        due("no sheet", new StampSheets().lone(), STATE);
    }
}
