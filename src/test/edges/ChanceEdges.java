import java.math.BigInteger;

/** Edges of promises 32 and 33: what goes wrong, and days by draws. */
final class ChanceEdges extends Edges {
    static void run() {
        lowestTerms();
        eachTearApart();
        allCasesCounted();
        wrongRefused();
        daysOfNone();
        daysByHand();
        daysAsActs();
        drawnRefused();
    }

    private static void fraction(StampSheets x, int piece, int k, int p, long above, long below) {
        due("wrong(" + piece + ", " + k + ", " + p + ", 0)", x.wrong(piece, k, p, 0), above);
        due("wrong(" + piece + ", " + k + ", " + p + ", 1)", x.wrong(piece, k, p, 1), below);
    }

    private static void lowestTerms() {
        says("but fractions, told as two numbers in lowest terms (0 is 0 by 1).");
        StampSheets x = open("w2,1,0;o1;o2;");
        long[][] kept = {{1, 1}, {9, 10}, {4, 5}, {7, 10}, {3, 5}, {1, 2}, {2, 5}, {3, 10}, {1, 5}, {1, 10}, {0, 1}};
        for (int p = 0; p <= 10; p++) {
            fraction(x, 1, 0, p, kept[p][0], kept[p][1]);
            fraction(x, 1, 1, p, 1, 1);
            fraction(x, 1, 10, p, 1, 1);
            fraction(x, 3, 0, p, 1, 1);
        }
    }

    private static void eachTearApart() {
        says("WRONG by p of 10 (0 to 10): as a PIECE is torn off, each of its TEARS goes wrong in p of 10 cases, apart: the STAMP at its other side is lost: how likely k (0 to 10) or fewer are lost: a fraction.");
        StampSheets x = open(NINE);
        for (int k = 0; k <= 10; k++) {
            fraction(x, 16, k, 0, 1, 1);
            fraction(x, 16, k, 10, k < 4 ? 0 : 1, 1);
            fraction(x, 511, k, 10, 1, 1);
        }
        fraction(x, 16, 0, 5, 1, 16);
        fraction(x, 16, 1, 5, 5, 16);
        fraction(x, 16, 2, 5, 11, 16);
        fraction(x, 16, 3, 5, 15, 16);
        fraction(x, 16, 3, 1, 9999, 10000);
        // Each corner is beside two tears of the plus, and lost by one of them already.
        fraction(x, 186, 0, 7, 6561, 100000000);
        fraction(x, 186, 3, 1, 100000000 - 19 * 19 * 19 * 19, 100000000);
        fraction(x, 186, 3, 10, 0, 1);
        fraction(x, 186, 4, 10, 1, 1);
        // The one in the middle is beside four tears of the ring.
        fraction(x, 495, 0, 1, 6561, 10000);
        fraction(x, 495, 0, 10, 0, 1);
        fraction(x, 495, 1, 10, 1, 1);
        x.spoil(1);
        fraction(x, 16, 0, 5, 1, 8);
        x.serve(0, 1);
        fraction(x, 8, 0, 5, 1, 4);
    }

    private static int[] tearsBeside(StampSheets x, int piece) {
        int[] beside = new int[10];
        for (int c = 0; c < x.count(1); c++) {
            boolean left = x.cell(c, 1) == 0 && (piece >> c & 1) == 0;
            beside[c] = left ? Integer.bitCount(x.cell(c, 2) & piece | around(x, c, piece)) : 0;
        }
        return beside;
    }

    /** A cell of the piece is next to c, if c is next to it. */
    private static int around(StampSheets x, int c, int piece) {
        int all = 0;
        for (int d = 0; d < x.count(1); d++) {
            all |= (piece >> d & 1) != 0 && (x.cell(d, 2) >> c & 1) != 0 ? 1 << d : 0;
        }
        return all;
    }

    /** Of all ways in which tears go wrong or not, each with its weight, those that lose few. */
    private static void allCasesCounted() {
        says("how likely k (0 to 10) or fewer are lost: a fraction.");
        int[] pieces = {1 << 2, 0b00110_01110, 0b01110_00100, 0b10000_11111, 0b11111_00000, 0b00100_01110};
        for (int piece : pieces) {
            for (int p : new int[] {1, 3, 6, 9}) {
                StampSheets x = open("w5,2,0;" + "o1;".repeat(10));
                int[] beside = tearsBeside(x, piece);
                for (int k : new int[] {0, 1, 2, 3, 4, 5, 9}) {
                    BigInteger few = casesOf(beside, 0, k, p);
                    BigInteger all = BigInteger.TEN.pow(x.piece(piece, 1));
                    BigInteger common = few.gcd(all);
                    fraction(x, piece, k, p, few.divide(common).longValueExact(), all.divide(common).longValueExact());
                }
            }
        }
    }

    private static BigInteger casesOf(int[] beside, int c, int k, int p) {
        if (k < 0) {
            return BigInteger.ZERO;
        }
        if (c == beside.length) {
            return BigInteger.ONE;
        }
        BigInteger sum = BigInteger.ZERO;
        for (int wrong = 0; wrong < 1 << beside[c]; wrong++) {
            int n = Integer.bitCount(wrong);
            BigInteger weight = BigInteger.valueOf(p).pow(n).multiply(BigInteger.valueOf(10 - p).pow(beside[c] - n));
            sum = sum.add(weight.multiply(casesOf(beside, c + 1, n == 0 ? k : k - 1, p)));
        }
        return sum;
    }

    private static void wrongRefused() {
        says("WRONG: above (what = 0), below (1). BAD.");
        StampSheets x = open(NINE);
        due("k of -1", x.wrong(16, -1, 5, 0), BAD);
        due("k of 11", x.wrong(16, 11, 5, 0), BAD);
        due("p of -1", x.wrong(16, 0, -1, 0), BAD);
        due("p of 11", x.wrong(16, 0, 11, 0), BAD);
        due("what of 2", x.wrong(16, 0, 5, 2), BAD);
        due("no PIECE", x.wrong(0, 0, 5, 0), BAD);
        due("no PIECE", x.wrong(5, 0, 5, 0), BAD);
        due("no PIECE", x.wrong(512, 0, 5, 0), BAD);
        for (int far : FAR) {
            due("piece " + far, x.wrong(far, 0, 5, 0), BAD);
            due("k " + far, x.wrong(16, far, 5, 0), BAD);
            due("p " + far, x.wrong(16, 0, far, 0), BAD);
            due("what " + far, x.wrong(16, 0, 5, far), BAD);
        }
        x.spoil(4);
        due("a spoilt one", x.wrong(16, 0, 5, 1), BAD);
        due("no sheet", new StampSheets().wrong(1, 0, 0, 1), BAD);
    }

    private static void daysOfNone() {
        says("DAYS of n (0 to 60) by a SEED (X at first)");
        StampSheets x = open(NINE);
        due("none", x.drawn(0, 1, 0), 0);
        due("none", x.drawn(0, 999999, 1), 0);
        x.serve(1, 56);
        due("none, from what stands", x.drawn(0, 1, 0), 2);
        due("none, from what stands", x.drawn(0, 999999, 1), 6);
        due("60 days end", x.drawn(60, 1, 1) >= 6 ? 1 : 0, 1);
        StampSheets alone = open("w1,1,0;o0;n1,1;");
        due("there is no BEST", alone.drawn(60, 1, 0), 0);
        due("there is no BEST", alone.drawn(60, 1, 1), 0);
    }

    private static void daysByHand() {
        says("each time X becomes the rest of (X times 16807) by 2147483647; if there are no CUSTOMERS, or X by 3 leaves 0, the STAMP in the CELL that is the rest of X by how many CELLS there are is spoilt, if it is on THE SHEET;");
        // From 3 on X is 50421, 847425747, 572982925, ..: the first two by 3 leave 0, by 2 leave 1; the third is odd.
        StampSheets x = open("w2,1,0;o1;o2;n1,1;n2,2;");
        due("cell 1 is spoilt", x.drawn(1, 3, 0), 0);
        due("cell 1 is spoilt already", x.drawn(2, 3, 0), 0);
        due("no 2 for customer 1 any more", x.drawn(3, 3, 0), 0);
        x.serve(1, 2);
        due("cell 1 is sold", x.drawn(1, 3, 0), 2);
        due("cell 1 is sold", x.drawn(2, 3, 0), 2);
        due("it is brought back", x.drawn(3, 3, 0), 0);
        due("TORN stays", x.drawn(3, 3, 1), 1);
        says("else the CUSTOMER that is the rest of X by how many there are brings the PIECE back, if SERVED, and is SERVED by BEST, if not (if there is one): who is SERVED then (bits); TORN.");
        // From 1 on X is 16807, 282475249, 1622650073, 984943658, ..: none of these by 3 leaves 0.
        StampSheets y = open("w3,1,0;o1;o2;o1;n1,1;n1,2;");
        int[][] wants = {{0, 0}, {2, 0 + 1}, {0, 1}, {2, 2}, {3, 2 + 1}};
        y.value(1, 9);
        for (int n = 0; n < wants.length; n++) {
            due("drawn(" + n + ", 1, 0)", y.drawn(n, 1, 0), wants[n][0]);
            due("drawn(" + n + ", 1, 1)", y.drawn(n, 1, 1), wants[n][1]);
        }
    }

    /** What a day does, done by acts; the draws are made with numbers of any size. */
    private static BigInteger live(StampSheets y, BigInteger before) {
        BigInteger x = before.multiply(BigInteger.valueOf(16807)).mod(BigInteger.valueOf(2147483647));
        int customers = y.count(2);
        boolean spoils = customers == 0 || x.mod(BigInteger.valueOf(3)).signum() == 0;
        int one = x.mod(BigInteger.valueOf(spoils ? y.count(1) : customers)).intValue();
        if (spoils) {
            y.spoil(one);
        } else if (y.customer(one, 2) != 0) {
            y.bringBack(one);
        } else if (y.best(one, 0) != NONE) {
            y.serve(one, y.best(one, 0));
        }
        return x;
    }

    private static void daysAsActs() {
        says("DAYS of n (0 to 60) by a SEED (X at first): each time X becomes");
        String[] texts = {NINE, "w5,2,6;d5;e9;e6;a9;u9;u2;d6;d3;e8;e8;n0,9;n5,30;n0,99;n20,40;n7,7;", "w2,2,0;o1;o1;o1;o1;",
            "w6,1,1;u1;u2;u3;u4;u5;u6;n0,3;n3,5;n5,6;n6,9;", "w1,1,0;o0;n0,0;"};
        int[] seeds = {1, 2, 3, 1000, 65536, 123456, 777777, 999998, 999999};
        for (String text : texts) {
            for (int seed : seeds) {
                StampSheets x = open(text);
                StampSheets y = open(text);
                BigInteger draw = BigInteger.valueOf(seed);
                for (int n = 0; n <= 60; n++) {
                    due("drawn(" + n + ", " + seed + ", 0) of '" + text + "'", x.drawn(n, seed, 0), y.stand(1));
                    due("drawn(" + n + ", " + seed + ", 1) of '" + text + "'", x.drawn(n, seed, 1), y.stand(2));
                    draw = n < 60 ? live(y, draw) : draw;
                }
                due("nothing changes", x.count(3), x.count(1));
                due("nothing changes", x.count(6), 0);
            }
        }
    }

    private static void drawnRefused() {
        says("DAYS by a SEED (1 to 999999): who (what = 0), TORN (1). BAD; STATE: no SHEET (ahead of BAD).");
        StampSheets x = open(NINE);
        due("n of -1", x.drawn(-1, 1, 0), BAD);
        due("n of 61", x.drawn(61, 1, 0), BAD);
        due("seed of 0", x.drawn(1, 0, 0), BAD);
        due("seed of 0, of no days", x.drawn(0, 0, 0), BAD);
        due("seed of 1000000", x.drawn(1, 1000000, 0), BAD);
        due("what of 2", x.drawn(1, 1, 2), BAD);
        for (int far : FAR) {
            due("n " + far, x.drawn(far, 1, 0), BAD);
            due("seed " + far, x.drawn(1, far, 0), BAD);
            due("what " + far, x.drawn(1, 1, far), BAD);
        }
        StampSheets none = new StampSheets();
        due("no sheet", none.drawn(0, 1, 0), STATE);
        due("no sheet, all BAD", none.drawn(-1, 0, 2), STATE);
        due("no sheet, all BAD", none.drawn(61, 1000000, -1), STATE);
    }
}
