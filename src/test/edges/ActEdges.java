import java.util.List;
import java.util.function.Consumer;

/** Edges of promises 9 to 17: pieces, what they pay and cost, acts and how all stands. */
final class ActEdges extends Edges {
    static void run() {
        nextOnes();
        noPieces();
        pays();
        paysByAir();
        tears();
        leastToMost();
        served();
        serveRefused();
        broughtBack();
        spoilt();
        valueIsAnother();
        overIsAnother();
        actsUndone();
        actsForgotten();
        actsAreCounted();
        cells();
        customers();
        stands();
    }

    private static void nextOnes() {
        says("CELLS are NEXT to those to the left, right, above, below.");
        for (int wide = 1; wide <= 6; wide++) {
            for (int high = 1; high <= 6 && wide * high <= 10; high++) {
                StampSheets x = open("w" + wide + "," + high + ",0;" + "o1;".repeat(wide * high));
                for (int c = 0; c < wide * high; c++) {
                    due("cell(" + c + ", 2) of " + wide + " by " + high, x.cell(c, 2), around(c, wide, high));
                }
            }
        }
    }

    private static int around(int c, int wide, int high) {
        int all = 0;
        for (int d = 0; d < wide * high; d++) {
            int apart = Math.abs(c % wide - d % wide) + Math.abs(c / wide - d / wide);
            all |= apart == 1 ? 1 << d : 0;
        }
        return all;
    }

    private static void noPieces() {
        says("A PIECE is a set of CELLS (bits), all with STAMPS on THE SHEET yet, not none, that hang together (from each to each by NEXT ones of it).");
        StampSheets x = open(NINE);
        due("all", x.piece(511, 2), 9);
        due("a ring", x.piece(495, 2), 8);
        due("one", x.piece(256, 2), 1);
        due("none", x.piece(0, 2), BAD);
        due("corners that touch", x.piece(1 | 16, 2), BAD);
        due("ends of rows", x.piece(4 | 8, 2), BAD);
        due("two apart", x.piece(1 | 4, 2), BAD);
        due("two twos", x.piece(1 | 2 | 128 | 256, 2), BAD);
        due("hanging together by what is not of it", x.piece(2 | 8 | 32 | 128, 2), BAD);
        due("a cell beyond", x.piece(512, 2), BAD);
        due("a cell beyond, too", x.piece(511 | 512, 2), BAD);
        due("bits beyond all cells", x.piece(1024 | 1, 2), BAD);
        for (int set : FAR) {
            due("piece(" + set + ", 2)", x.piece(set, 2), BAD);
        }
        x.spoil(4);
        due("with a spoilt one", x.piece(511, 2), BAD);
        due("a spoilt one", x.piece(16, 2), BAD);
        due("the ring yet", x.piece(495, 2), 8);
        x.serve(0, 1);
        due("with a sold one", x.piece(495, 2), BAD);
        due("a sold one", x.piece(1, 2), BAD);
        due("what is left", x.piece(494, 2), 7);
        x.bringBack(0);
        due("the ring again", x.piece(495, 2), 8);
        due("no sheet", new StampSheets().piece(1, 2), BAD);
    }

    private static int paysAlone(String stamp, int over) {
        return open("w1,1," + over + ";" + stamp + ";").piece(1, 0);
    }

    private static void pays() {
        says("A PIECE PAYS what its STAMPS pay, all together: an ordinary one VALUE; one stamped over that, and OVER; a damaged one half of VALUE (cut)");
        for (int v = 0; v <= 9; v++) {
            due("o" + v, paysAlone("o" + v, 9), v);
            due("u" + v + ", OVER 0", paysAlone("u" + v, 0), v);
            due("u" + v + ", OVER 9", paysAlone("u" + v, 9), v + 9);
            due("d" + v, paysAlone("d" + v, 9), v / 2);
            due("a" + v, paysAlone("a" + v, 9), 0);
            due("e" + v, paysAlone("e" + v, 9), 5);
        }
        says("All that is divided is cut towards 0");
        due("halves of 1, 3 and 5, each cut", open("w3,1,0;d1;d3;d5;").piece(7, 0), 0 + 1 + 2);
    }

    private static void paysByAir() {
        says("one by air VALUE for each by air (express ones, too) that is NEXT to it in the PIECE; an express one so, and 5 more.");
        StampSheets x = open("w3,3,9;o9;a1;u9;e2;a9;a3;d9;e4;o9;");
        due("four around", x.piece(2 | 8 | 16 | 32 | 128, 0), 36 + 1 + 2 + 3 + 4 + 5 + 5);
        due("alone", x.piece(16, 0), 0);
        due("by an express one", x.piece(8 | 16, 0), 9 + 2 + 5);
        due("by another one", x.piece(16 | 32, 0), 9 + 3);
        due("the express one alone", x.piece(8, 0), 5);
        due("by none but others", x.piece(1 | 2 | 4, 0), 9 + 0 + 18);
        StampSheets y = open("w3,1,0;a7;o5;a8;");
        due("not next to one another", y.piece(7, 0), 5);
        StampSheets z = open("w5,2,0;" + "e9;".repeat(10));
        due("the most that there is", z.piece(1023, 0), 13 * 18 + 50);
        StampSheets ends = open("w2,2,0;o0;a9;a9;o0;");
        due("corners that touch are not next", ends.piece(15, 0), 0);
        StampSheets rows = open("w3,2,0;o0;o0;a9;a9;o0;o0;");
        due("ends of rows are not next", rows.piece(63, 0), 0);
    }

    private static void tears() {
        says("TEARS of a PIECE: how many pairs of NEXT CELLS there are, one of the PIECE, the other one with a STAMP on THE SHEET, not of it.");
        StampSheets x = open(NINE);
        due("all", x.piece(511, 1), 0);
        due("all but one: it is next to four", x.piece(495, 1), 4);
        due("one in the middle", x.piece(16, 1), 4);
        due("one at a corner", x.piece(1, 1), 2);
        due("the plus: each corner twice", x.piece(186, 1), 8);
        x.spoil(1);
        due("less one that is spoilt", x.piece(16, 1), 3);
        x.serve(1, 56);
        due("of those left none is next", x.piece(1, 1), 0);
        due("those below, less what is sold", x.piece(64, 1), 1);
        x.bringBack(1);
        due("again", x.piece(64, 1), 2);
        due("one alone", open("w1,1,0;o0;").piece(1, 1), 0);
    }

    private static void leastToMost() {
        says("A CUSTOMER is SERVED by a PIECE that PAYS LEAST to MOST");
        int[][] wants = {{5, 5, 0}, {5, 9, 0}, {0, 5, 0}, {0, 99, 0}, {0, 4, STATE}, {6, 9, STATE}, {4, 4, STATE},
            {6, 6, STATE}, {99, 99, STATE}, {0, 0, STATE}};
        for (int[] w : wants) {
            StampSheets x = open("w1,1,0;o5;n" + w[0] + "," + w[1] + ";");
            due("5 for " + w[0] + " to " + w[1], x.serve(0, 1), w[2]);
            due("ways", x.ways(0), w[2] == STATE ? 0 : STATE);
        }
        due("0 for 0 to 0", open("w1,1,0;o0;n0,0;").serve(0, 1), 0);
        due("0 for 1 to 1", open("w1,1,0;o0;n1,1;").serve(0, 1), STATE);
        String nines = "o9;".repeat(8);
        due("99 for 99", open("w5,2,9;" + nines + "o9;u9;n99,99;").serve(0, 1023), 0);
        due("99 for 98 at most", open("w5,2,9;" + nines + "o9;u9;n0,98;").serve(0, 1023), STATE);
        due("100 for 99 at most", open("w5,2,9;" + nines + "u1;u9;n0,99;").serve(0, 1023), STATE);
    }

    private static void served() {
        says("it is not on THE SHEET then, TORN is as much more as TEARS.");
        StampSheets x = open(NINE);
        due("serve(1, 56)", x.serve(1, 56), 6);
        due("torn", x.stand(2), 6);
        due("serve(0, 1)", x.serve(0, 1), 1);
        due("torn", x.stand(2), 7);
        due("serve(2, 64)", x.serve(2, 64), 1);
        due("torn", x.stand(2), 8);
        due("left", x.stand(0), 511 - 56 - 1 - 64);
        due("who", x.stand(1), 7);
        due("none is spoilt", x.stand(4), 0);
        StampSheets y = open("w2,1,0;o1;o2;n3,3;n0,0;");
        due("all that there is", y.serve(0, 3), 0);
        due("torn", y.stand(2), 0);
        due("left", y.stand(0), 0);
        due("no more for another", y.serve(1, 1), BAD);
    }

    private static void serveRefused() {
        says("SERVED: TEARS. BAD; STATE: one is, or the PIECE PAYS too little, too much.");
        StampSheets x = open(NINE);
        due("too little", x.serve(0, 4), STATE);
        due("too much", x.serve(0, 3), STATE);
        due("SERVED", x.serve(0, 1), 2);
        due("one is", x.serve(0, 2), STATE);
        due("one is, and it pays too much", x.serve(0, 6), STATE);
        due("BAD ahead of STATE: sold", x.serve(0, 1), BAD);
        due("BAD ahead of STATE: none", x.serve(0, 0), BAD);
        due("BAD ahead of STATE: apart", x.serve(0, 66), BAD);
        for (int piece : FAR) {
            due("serve(2, " + piece + ")", x.serve(2, piece), BAD);
        }
        for (int customer : FAR) {
            due("serve(" + customer + ", 64)", x.serve(customer, 64), BAD);
        }
        due("no such customer", x.serve(3, 64), BAD);
        due("one ACT", x.count(6), 1);
        due("torn", x.stand(2), 2);
        due("another one may be", x.serve(2, 64), 2);
        due("no sheet", new StampSheets().serve(0, 1), BAD);
        due("no customers", open("w1,1,0;o0;").serve(0, 1), BAD);
        StampSheets five = open("w5,1,0;" + "o1;".repeat(5) + "n1,1;".repeat(5));
        due("the fifth", five.serve(4, 16), 1);
        due("a sixth", five.serve(5, 1), BAD);
    }

    private static void broughtBack() {
        says("Brought back: what it PAYS there, as a PIECE. BAD; STATE: one is not SERVED.");
        StampSheets x = open(NINE);
        due("not SERVED", x.bringBack(1), STATE);
        for (int customer : FAR) {
            due("bringBack(" + customer + ")", x.bringBack(customer), BAD);
        }
        due("no such customer", x.bringBack(3), BAD);
        x.serve(1, 56);
        due("13", x.bringBack(1), 13);
        due("not SERVED any more", x.bringBack(1), STATE);
        x.serve(1, 56);
        x.value(3, 9);
        x.value(4, 9);
        x.value(5, 9);
        due("more than MOST", x.bringBack(1), 9 + 18 + 5 + 9);
        due("no sheet", new StampSheets().bringBack(0), BAD);
        says("one who is brings it back (its STAMPS are on THE SHEET, in their CELLS; TORN stays)");
        StampSheets y = open(NINE);
        y.serve(1, 56);
        y.bringBack(1);
        due("on the sheet", y.stand(0), 511);
        due("who", y.stand(1), 0);
        due("torn", y.stand(2), 6);
        due("customer(1, 2)", y.customer(1, 2), 0);
        due("cell(4, 1)", y.cell(4, 1), 0);
        due("cell(4, 3)", y.cell(4, 3), NONE);
        due("once more", y.serve(1, 56), 6);
        due("torn twice", y.stand(2), 12);
    }

    private static void spoilt() {
        says("Spoilt: how many are on THE SHEET then. BAD; STATE: there is none.");
        StampSheets x = open("w2,1,0;o1;o2;n1,1;");
        for (int cell : FAR) {
            due("spoil(" + cell + ")", x.spoil(cell), BAD);
        }
        due("no such cell", x.spoil(2), BAD);
        x.serve(0, 1);
        due("sold", x.spoil(0), STATE);
        due("the last one", x.spoil(1), 0);
        due("spoilt already", x.spoil(1), STATE);
        due("no sheet", new StampSheets().spoil(0), BAD);
        due("10 less one", open("w5,2,0;" + "o1;".repeat(10)).spoil(9), 9);
        says("a STAMP of THE SHEET is spoilt (it is not on it, nobody's)");
        due("cell(1, 1)", x.cell(1, 1), 2);
        due("cell(1, 3)", x.cell(1, 3), NONE);
        due("stand(0)", x.stand(0), 0);
        due("stand(4)", x.stand(4), 2);
        due("torn by serve() alone", x.stand(2), 1);
        due("sold, not spoilt", x.cell(0, 1), 1);
        x.bringBack(0);
        due("what is spoilt stays so", x.stand(0), 1);
    }

    private static void valueIsAnother() {
        says("VALUE (0 to 9): what it was. BAD.");
        StampSheets x = open(NINE);
        due("value(0, 0)", x.value(0, 0), 5);
        due("value(0, 9)", x.value(0, 9), 0);
        due("value(8, 1)", x.value(8, 1), 7);
        due("value(0, 10)", x.value(0, 10), BAD);
        due("value(9, 1)", x.value(9, 1), BAD);
        for (int far : FAR) {
            due("value(0, " + far + ")", x.value(0, far), BAD);
            due("value(" + far + ", 0)", x.value(far, 0), BAD);
        }
        due("cell(0, 0)", x.cell(0, 0), 9);
        due("ACTS", x.count(6), 3);
        due("no sheet", new StampSheets().value(0, 0), BAD);
        says("VALUE of a STAMP (wherever it is) is another");
        x.serve(1, 56);
        x.spoil(8);
        due("sold", x.value(4, 0), 2);
        due("spoilt", x.value(8, 9), 1);
        due("sold", x.cell(4, 0), 0);
        due("spoilt", x.cell(8, 0), 9);
        due("SERVED yet", x.customer(1, 2), 56);
        due("it pays less there", x.bringBack(1), 3 + 0 + 5 + 1);
    }

    private static void overIsAnother() {
        says("OVER (0 to 9): what it was. BAD; STATE: no SHEET (ahead of BAD).");
        StampSheets none = new StampSheets();
        due("no sheet", none.over(0), STATE);
        due("no sheet", none.over(10), STATE);
        due("no sheet", none.over(-1), STATE);
        StampSheets x = open(NINE);
        due("over(0)", x.over(0), 4);
        due("piece(2, 0)", x.piece(2, 0), 2);
        due("over(9)", x.over(9), 0);
        due("piece(2, 0)", x.piece(2, 0), 11);
        due("over(10)", x.over(10), BAD);
        for (int far : FAR) {
            due("over(" + far + ")", x.over(far), BAD);
        }
        due("stand(3)", x.stand(3), 9);
        due("ACTS", x.count(6), 2);
    }

    private static void actsUndone() {
        says("each can be undone, the latest first");
        List<Consumer<StampSheets>> acts = List.of(y -> y.serve(1, 56), y -> y.serve(0, 1), y -> y.spoil(8),
                y -> y.value(4, 9), y -> y.bringBack(1), y -> y.over(0), y -> y.value(8, 0), y -> y.serve(2, 64));
        for (int n = 1; n <= acts.size(); n++) {
            StampSheets x = open(NINE);
            for (Consumer<StampSheets> act : acts.subList(0, n - 1)) {
                act.accept(x);
            }
            List<Integer> before = seen(x);
            acts.get(n - 1).accept(x);
            due("count(6)", x.count(6), n);
            due("undo()", x.undo(), n - 1);
            due("behind undo() of act " + n, seen(x), before);
        }
        undoneOneByOne();
        says("The latest ACT is undone: how many can be undone yet. STATE: none.");
        StampSheets x = open(NINE);
        due("none", x.undo(), STATE);
        List<Integer> before = seen(x);
        for (Consumer<StampSheets> act : acts) {
            act.accept(x);
        }
        for (int left = acts.size() - 1; left >= 0; left--) {
            due("undo()", x.undo(), left);
        }
        due("all undone", seen(x), before);
        due("none any more", x.undo(), STATE);
        due("no sheet", new StampSheets().undo(), STATE);
    }

    /** Customers and cells of the same number: what is undone of the one leaves the other. */
    private static void undoneOneByOne() {
        StampSheets x = open("w3,1,4;o1;u2;d3;n1,9;n1,9;n1,9;");
        x.spoil(1);
        x.serve(1, 4);
        x.bringBack(1);
        due("undo() of bringBack(1)", x.undo(), 2);
        due("cell 1 is spoilt yet", x.stand(0), 1);
        due("cell 1 is spoilt yet", x.stand(4), 2);
        due("customer 1 has cell 2", x.customer(1, 2), 4);
        due("undo() of serve(1, 4)", x.undo(), 1);
        due("cell 1 is spoilt yet", x.stand(0), 5);
        x.serve(0, 1);
        x.value(0, 7);
        x.over(9);
        due("undo() of over(9)", x.undo(), 3);
        due("OVER", x.stand(3), 4);
        due("VALUE", x.cell(0, 0), 7);
        due("undo() of value(0, 7)", x.undo(), 2);
        due("VALUE", x.cell(0, 0), 1);
        due("SERVED yet", x.customer(0, 2), 1);
        due("undo() of serve(0, 1)", x.undo(), 1);
        due("undo() of spoil(1)", x.undo(), 0);
        due("all are on it", x.stand(0), 7);
        due("none is spoilt", x.stand(4), 0);
        due("nothing was torn", x.stand(2), 0);
    }

    /** 24 acts behind one: that one is forgotten; 23 behind it: it is not. */
    private static void actsForgotten() {
        says("ACTS (24 at most are kept, of more the oldest is forgotten; each can be undone, the latest first)");
        List<Consumer<StampSheets>> firsts = List.of(x -> x.serve(1, 56), x -> x.spoil(8), x -> x.value(4, 9),
                x -> x.over(0));
        for (Consumer<StampSheets> first : firsts) {
            StampSheets x = open(NINE);
            List<Integer> begin = seen(x);
            first.accept(x);
            values(x, 23);
            due("count(6)", x.count(6), 24);
            undoAll(x);
            due("all 24 undone", seen(x), begin);
            StampSheets y = open(NINE);
            first.accept(y);
            List<Integer> behind = seen(y);
            values(y, 24);
            due("count(6)", y.count(6), 24);
            undoAll(y);
            behind.set(6, 0);
            due("all but the first of 25 undone", seen(y), behind);
        }
        StampSheets y = open(NINE);
        y.serve(1, 56);
        y.bringBack(1);
        values(y, 24);
        undoAll(y);
        due("brought back it stays", y.stand(0), 511);
        due("brought back it stays", y.stand(2), 6);
    }

    private static void values(StampSheets x, int n) {
        for (int i = 0; i < n; i++) {
            x.value(0, i % 2 + 1);
        }
    }

    private static void undoAll(StampSheets x) {
        for (int left = 23; left >= 0; left--) {
            due("undo()", x.undo(), left);
        }
        due("undo() of none", x.undo(), STATE);
    }

    private static void actsAreCounted() {
        says("ACTS (24 at most are kept, of more the oldest is forgotten; each can be undone, the latest first)");
        StampSheets x = open("w1,1,0;o0;");
        for (int i = 1; i <= 100; i++) {
            x.value(0, i % 10);
            due("count(6) behind " + i, x.count(6), Math.min(i, 24));
        }
        for (int i = 99; i >= 90; i--) {
            due("undo()", x.undo(), i - 76);
            due("VALUE behind " + i, x.cell(0, 0), i % 10);
        }
        for (int i = 91; i <= 99; i++) {
            x.over(i % 10);
            due("count(6)", x.count(6), i - 76);
        }
        for (int i = 98; i >= 90; i--) {
            due("undo()", x.undo(), i - 76);
            due("OVER behind " + i, x.stand(3), i == 90 ? 0 : i % 10);
        }
        for (int i = 89; i >= 76; i--) {
            due("undo()", x.undo(), i - 76);
            due("VALUE behind " + i, x.cell(0, 0), i % 10);
        }
        due("undo() of what is forgotten", x.undo(), STATE);
        due("VALUE", x.cell(0, 0), 6);
        x.value(0, 6);
        due("also one that leaves VALUE as it was", x.count(6), 1);
        x.over(0);
        due("also one that leaves OVER as it was", x.count(6), 2);
    }

    private static void cells() {
        says("Of a CELL: 0 VALUE, 1 how it is (0 on THE SHEET, 1 sold, 2 spoilt), 2 NEXT ones on THE SHEET (bits), 3 the CUSTOMER who has it (NONE). BAD.");
        StampSheets x = open("w5,2,0;o0;o1;o2;o3;o4;o5;o6;o7;o8;o9;n0,0;n1,1;n2,2;n3,3;n4,4;");
        for (int c = 0; c < 5; c++) {
            due("NONE has it", x.cell(c, 3), NONE);
            x.serve(c, 1 << c);
            due("cell(" + c + ", 1)", x.cell(c, 1), 1);
            due("cell(" + c + ", 3)", x.cell(c, 3), c);
            due("NEXT of a sold one", x.cell(c, 2), (c < 4 ? 2 << c : 0) | 32 << c);
        }
        x.spoil(9);
        due("cell(9, 0)", x.cell(9, 0), 9);
        due("cell(9, 1)", x.cell(9, 1), 2);
        due("NEXT of a spoilt one", x.cell(9, 2), 256);
        due("cell(9, 3)", x.cell(9, 3), NONE);
        due("NEXT to it: sold, spoilt", x.cell(8, 2), 128);
        due("cell(8, 1)", x.cell(8, 1), 0);
        x.bringBack(0);
        due("cell(0, 1)", x.cell(0, 1), 0);
        due("cell(0, 3)", x.cell(0, 3), NONE);
        due("no such cell", x.cell(10, 0), BAD);
        due("no such question", x.cell(0, 4), BAD);
        for (int far : FAR) {
            due("cell(" + far + ", 0)", x.cell(far, 0), BAD);
            due("cell(0, " + far + ")", x.cell(0, far), BAD);
        }
        due("no sheet", new StampSheets().cell(0, 0), BAD);
        due("one of one", open("w1,1,0;o7;").cell(0, 2), 0);
        due("a second of one", open("w1,1,0;o7;").cell(1, 0), BAD);
    }

    private static void customers() {
        says("Of a CUSTOMER: 0 LEAST, 1 MOST, 2 the PIECE (0: not SERVED). BAD.");
        StampSheets x = open("w2,1,0;o1;o2;n0,0;n99,99;n0,99;n3,4;n2,5;");
        int[][] wants = {{0, 0}, {99, 99}, {0, 99}, {3, 4}, {2, 5}};
        for (int c = 0; c < 5; c++) {
            due("customer(" + c + ", 0)", x.customer(c, 0), wants[c][0]);
            due("customer(" + c + ", 1)", x.customer(c, 1), wants[c][1]);
            due("customer(" + c + ", 2)", x.customer(c, 2), 0);
        }
        x.serve(4, 3);
        due("customer(4, 2)", x.customer(4, 2), 3);
        x.bringBack(4);
        due("customer(4, 2)", x.customer(4, 2), 0);
        due("a sixth", x.customer(5, 0), BAD);
        due("no such question", x.customer(0, 3), BAD);
        for (int far : FAR) {
            due("customer(" + far + ", 0)", x.customer(far, 0), BAD);
            due("customer(0, " + far + ")", x.customer(0, far), BAD);
        }
        due("no sheet", new StampSheets().customer(0, 0), BAD);
        due("no customers", open("w1,1,0;o0;").customer(0, 0), BAD);
    }

    private static void stands() {
        says("0 CELLS on THE SHEET (bits), 1 who is SERVED (bits), 2 TORN, 3 OVER, 4 spoilt ones (bits). BAD; STATE: no SHEET (ahead of BAD).");
        StampSheets none = new StampSheets();
        for (int what = -1; what <= 5; what++) {
            due("no sheet, stand(" + what + ")", none.stand(what), STATE);
        }
        StampSheets x = open("w5,2,9;" + "o1;".repeat(10) + "n1,1;".repeat(5));
        int[] first = {1023, 0, 0, 9, 0};
        for (int what = 0; what < 5; what++) {
            due("stand(" + what + ")", x.stand(what), first[what]);
        }
        for (int c = 0; c < 5; c++) {
            x.serve(c, 32 << c);
        }
        spoil(x, 0, 1, 2, 3, 4);
        int[] last = {0, 31, 2 * 4 + 1, 9, 31};
        for (int what = 0; what < 5; what++) {
            due("stand(" + what + ")", x.stand(what), last[what]);
        }
        due("stand(5)", x.stand(5), BAD);
        for (int far : FAR) {
            due("stand(" + far + ")", x.stand(far), BAD);
        }
    }
}
