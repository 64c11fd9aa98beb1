import java.util.Arrays;

/**
 * The sheets of every form, with every set of cells on them, against counts by other means than the
 * class has: shortest ways by all pairs at once, the fewest perforations by flows, straight pieces by
 * runs of cells, and for sides and pieces all sets of cells that there are.
 */
public final class FormsTest {
    static final int NONE = -1000000, BAD = -1000001;
    static final int FAR = 1000;
    static int wrong = 0;
    static int checks = 0;
    static String state = "";

    final int wide;
    final int cells;
    final boolean[][] next;
    int on;

    FormsTest(int wide, int high) {
        this.wide = wide;
        this.cells = wide * high;
        this.next = new boolean[cells][cells];
        for (int a = 0; a < cells; a++) {
            for (int b = 0; b < cells; b++) {
                next[a][b] = Math.abs(a % wide - b % wide) + Math.abs(a / wide - b / wide) == 1;
            }
        }
    }

    static void due(String call, int got, int want) {
        checks++;
        if (got != want) {
            wrong++;
            System.out.println(state + ": " + call + " answered " + got + ", due is " + want);
        }
    }

    boolean isOn(int cell) {
        return has(on, cell);
    }

    static boolean has(int set, int cell) {
        return (set >> cell & 1) != 0;
    }

    StampSheets open() {
        StringBuilder text = new StringBuilder("w" + wide + "," + cells / wide + ",0;");
        for (int c = 0; c < cells; c++) {
            text.append("o1;");
        }
        StampSheets x = new StampSheets();
        for (int i = 0; i < text.length(); i++) {
            x.feed(text.charAt(i));
        }
        due("sheet()", x.sheet(), cells);
        for (int c = 0; c < cells; c++) {
            if (!isOn(c)) {
                x.spoil(c);
            }
        }
        return x;
    }

    /** Of each cell of the set the least one that it hangs together with; -1: not of the set. */
    int[] leastOf(int set) {
        int[] least = new int[cells];
        for (int c = 0; c < cells; c++) {
            least[c] = has(set, c) ? c : -1;
        }
        for (int round = 0; round < cells; round++) {
            for (int a = 0; a < cells; a++) {
                for (int b = 0; b < cells; b++) {
                    if (next[a][b] && has(set, a) && has(set, b)) {
                        least[a] = Math.min(least[a], least[b]);
                    }
                }
            }
        }
        return least;
    }

    int parts(int set) {
        int n = 0;
        int[] least = leastOf(set);
        for (int c = 0; c < cells; c++) {
            n += least[c] == c ? 1 : 0;
        }
        return n;
    }

    void checkParts(StampSheets x) {
        int[] least = leastOf(on);
        int k = 0;
        for (int c = 0; c < cells; c++) {
            if (least[c] == c) {
                int bits = 0;
                for (int d = 0; d < cells; d++) {
                    bits |= least[d] == c ? 1 << d : 0;
                }
                due("parts(" + k + ")", x.parts(k), bits);
                k++;
            }
        }
        due("parts(" + k + ")", x.parts(k), NONE);
        due("parts(-1)", x.parts(-1), k);
    }

    void checkLone(StampSheets x) {
        int bits = 0;
        for (int c = 0; c < cells; c++) {
            bits |= isOn(c) && parts(on ^ 1 << c) > parts(on) ? 1 << c : 0;
        }
        due("lone()", x.lone(), bits);
    }

    void checkPieces(StampSheets x, boolean[] hangs) {
        int[] many = new int[11];
        int all = 0;
        for (int set = 1; set < 1 << cells; set++) {
            if (hangs[set] && (set & ~on) == 0) {
                many[Integer.bitCount(set)]++;
                all++;
            }
        }
        for (int n = 1; n <= 10; n++) {
            due("pieces(" + n + ", 0)", x.pieces(n, 0), all);
            due("pieces(" + n + ", 1)", x.pieces(n, 1), many[n]);
            due("pieces(" + n + ", 2)", x.pieces(n, 2), straight(n));
        }
    }

    int straight(int n) {
        // One stamp alone stands in a row and in a column, and is counted once.
        if (n == 1) {
            return Integer.bitCount(on);
        }
        return wide == 1 ? runs(n, 1) : runs(n, 1) + runs(n, wide);
    }

    /** How many times n cells on the sheet stand one behind another, each so much further. */
    int runs(int n, int step) {
        int runs = 0;
        for (int c = 0; c + (n - 1) * step < cells; c++) {
            boolean run = isOn(c);
            for (int d = c + step; d <= c + (n - 1) * step; d += step) {
                run &= isOn(d) && next[d - step][d];
            }
            runs += run ? 1 : 0;
        }
        return runs;
    }

    /** Perforation by perforation: it is within a couple, or not. */
    int couplings(int perforation, int left) {
        if (left == 0) {
            return 1;
        }
        if (perforation >= cells * cells) {
            return 0;
        }
        int a = perforation / cells;
        int b = perforation % cells;
        int n = couplings(perforation + 1, left);
        if (a < b && next[a][b] && has(left, a) && has(left, b)) {
            n += couplings(perforation + 1, left ^ 1 << a ^ 1 << b);
        }
        return n;
    }

    int[][] ways() {
        int[][] way = new int[cells][cells];
        for (int a = 0; a < cells; a++) {
            Arrays.fill(way[a], FAR);
            way[a][a] = 0;
            for (int b = 0; b < cells; b++) {
                if (next[a][b] && isOn(a) && isOn(b)) {
                    way[a][b] = 1;
                }
            }
        }
        for (int m = 0; m < cells; m++) {
            for (int a = 0; a < cells; a++) {
                for (int b = 0; b < cells; b++) {
                    way[a][b] = Math.min(way[a][b], way[a][m] + way[m][b]);
                }
            }
        }
        return way;
    }

    void checkWays(StampSheets x) {
        int[][] way = ways();
        for (int a = 0; a < cells; a++) {
            for (int b = 0; b < cells; b++) {
                if (a != b && isOn(a) && isOn(b)) {
                    int first = NONE;
                    for (int c = cells - 1; c >= 0; c--) {
                        first = way[a][b] < FAR && way[a][c] == 1 && way[c][b] == way[a][b] - 1 ? c : first;
                    }
                    due("way(" + a + ", " + b + ", 0)", x.way(a, b, 0), way[a][b] < FAR ? way[a][b] : NONE);
                    due("way(" + a + ", " + b + ", 1)", x.way(a, b, 1), first);
                }
            }
        }
    }

    int tears(int set) {
        int n = 0;
        for (int a = 0; a < cells; a++) {
            for (int b = 0; b < cells; b++) {
                n += next[a][b] && has(set, a) && isOn(b) && !has(set, b) ? 1 : 0;
            }
        }
        return n;
    }

    /** How many ways without a perforation in common there are. */
    int flow(int from, int to) {
        int[][] room = new int[cells][cells];
        for (int a = 0; a < cells; a++) {
            for (int b = 0; b < cells; b++) {
                room[a][b] = next[a][b] && isOn(a) && isOn(b) ? 1 : 0;
            }
        }
        int flow = 0;
        while (pushed(room, from, to, new boolean[cells])) {
            flow++;
        }
        return flow;
    }

    boolean pushed(int[][] room, int at, int to, boolean[] seen) {
        if (at == to) {
            return true;
        }
        seen[at] = true;
        for (int b = 0; b < cells; b++) {
            if (room[at][b] > 0 && !seen[b] && pushed(room, b, to, seen)) {
                room[at][b]--;
                room[b][at]++;
                return true;
            }
        }
        return false;
    }

    void checkPartings(StampSheets x) {
        int[] tears = new int[1 << cells];
        for (int set = 0; set < 1 << cells; set++) {
            tears[set] = (set & ~on) == 0 ? tears(set) : FAR;
        }
        for (int a = 0; a < cells; a++) {
            for (int b = 0; b < cells; b++) {
                if (a != b && isOn(a) && isOn(b)) {
                    int fewest = flow(a, b);
                    int side = 1;
                    while (!has(side, a) || has(side, b) || tears[side] != fewest) {
                        side++;
                    }
                    due("parting(" + a + ", " + b + ", 0)", x.parting(a, b, 0), fewest);
                    due("parting(" + a + ", " + b + ", 1)", x.parting(a, b, 1), side);
                }
            }
        }
    }

    /** Each set of cells as a piece, on a sheet that has all of them: at most 512 calls an object. */
    void checkEachPiece(boolean[] hangs) {
        StampSheets x = open();
        for (int set = 1; set < 1 << cells; set++) {
            x = set % 100 == 0 ? open() : x;
            boolean is = hangs[set];
            due("piece(" + set + ", 0)", x.piece(set, 0), is ? Integer.bitCount(set) : BAD);
            due("piece(" + set + ", 1)", x.piece(set, 1), is ? tears(set) : BAD);
            due("piece(" + set + ", 2)", x.piece(set, 2), is ? Integer.bitCount(set) : BAD);
            due("piece(" + set + ", 3)", x.piece(set, 3), is ? parts(on ^ set) : BAD);
        }
        due("a cell too many", x.piece(1 << cells, 2), BAD);
    }

    void check() {
        boolean[] hangs = new boolean[1 << cells];
        for (int set = 1; set < 1 << cells; set++) {
            hangs[set] = parts(set) == 1;
        }
        for (on = 0; on < 1 << cells; on++) {
            state = wide + " by " + cells / wide + ", on the sheet " + Integer.toBinaryString(on);
            StampSheets x = open();
            checkParts(x);
            checkLone(x);
            checkPieces(x, hangs);
            due("couples()", x.couples(), couplings(0, on));
            checkWays(x);
            x = open();
            checkPartings(x);
        }
        on = (1 << cells) - 1;
        checkEachPiece(hangs);
    }

    public static void main(String[] args) {
        int forms = 0;
        for (int wide = 1; wide <= 6; wide++) {
            for (int high = 1; high <= 6; high++) {
                if (wide * high <= 10) {
                    new FormsTest(wide, high).check();
                    forms++;
                }
            }
        }
        due("forms", forms, 19);
        System.out.println(wrong == 0 ? checks + " answers on all forms are as due" : wrong + " answers are not as due");
        if (wrong != 0) {
            System.exit(1);
        }
    }
}
