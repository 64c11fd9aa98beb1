import java.util.ArrayList;
import java.util.List;

/** Each promise of the document by its number: ordinary inputs, edges, wrong inputs. */
public final class PromisesTest {
    static final int NONE = -1000000, BAD = -1000001, STATE = -1000002, FULL = -1000003;
    static final int NULL = -1000011, PLACE = -1000012, KIND = -1000013, SIZE = -1000014, STORE = -1000015;
    static final int LOW = Integer.MIN_VALUE, HIGH = Integer.MAX_VALUE;
    /**
     * o5 u2 d9
     * a3 e2 a1
     * o0 d4 u7, over 4: alone they pay 5 6 4 / 0 5 0 / 0 2 11; all by air together 13.
     */
    static final String NINE = "w3,3,4;o5;u2;d9;a3;e2;a1;o0;d4;u7;n5,9;n12,20;n0,3;";
    static int wrong = 0;
    static int checks = 0;
    static int promise = 0;

    static void due(String what, long got, long want) {
        checks++;
        if (got != want) {
            wrong++;
            System.out.println("promise " + promise + ": " + what + " answered " + got + ", due is " + want);
        }
    }

    static int read(StampSheets x, String text) {
        for (int i = 0; i < text.length(); i++) {
            x.feed(text.charAt(i));
        }
        return x.sheet();
    }

    static StampSheets open(String text) {
        StampSheets x = new StampSheets();
        if (read(x, text) <= 0) {
            due("sheet() of " + text, -1, 1);
        }
        return x;
    }

    /** All that can be seen of what stands, but for status(). */
    static List<Long> seen(StampSheets x) {
        List<Long> all = new ArrayList<>();
        for (int what = 0; what < 8; what++) {
            all.add((long) x.count(what));
        }
        for (int what = 0; what < 5; what++) {
            all.add((long) x.stand(what));
        }
        for (int c = 0; c < 10; c++) {
            for (int what = 0; what < 4; what++) {
                all.add((long) x.cell(c, what));
            }
            all.add((long) x.kind(c));
        }
        for (int c = 0; c < 5; c++) {
            for (int what = 0; what < 3; what++) {
                all.add((long) x.customer(c, what));
            }
        }
        for (int i = 0; i < 16; i++) {
            all.add((long) x.trace(i));
        }
        all.add((long) x.fault());
        return all;
    }

    static void same(String what, StampSheets x, List<Long> before) {
        due(what + " changes nothing", seen(x).equals(before) ? 0 : 1, 0);
    }

    static void newObject() {
        promise = 1;
        StampSheets x = new StampSheets();
        for (int what = 0; what < 8; what++) {
            due("count(" + what + ")", x.count(what), 0);
        }
        due("status()", x.status(), 0);
        due("fault()", x.fault(), 0);
        due("trace(0)", x.trace(0), NONE);
        due("stand(0)", x.stand(0), STATE);
        due("stand(9)", x.stand(9), STATE);
        due("restore(0)", x.restore(0), STATE);
        due("drop(7)", x.drop(7), NULL);
        due("NONE", StampSheets.NONE, NONE);
        due("BAD", StampSheets.BAD, BAD);
        due("STATE", StampSheets.STATE, STATE);
        due("FULL", StampSheets.FULL, FULL);
    }

    static void rows() {
        promise = 2;
        StampSheets x = new StampSheets();
        due("row(0, 0, 40)", x.row(0, 0, 40), 40);
        due("row(7, 2, 0)", x.row(7, 2, 0), 0);
        due("row(1, 1, 1)", x.row(1, 1, 1), 1);
        due("count(0)", x.count(0), 3);
        due("row(8, 0, 1)", x.row(8, 0, 1), BAD);
        due("row(-1, 0, 1)", x.row(-1, 0, 1), BAD);
        due("row(0, 3, 1)", x.row(0, 3, 1), BAD);
        due("row(0, -1, -1)", x.row(0, -1, -1), BAD);
        due("row(0, 0, 41)", x.row(0, 0, 41), BAD);
        due("row(0, 0, max)", x.row(0, 0, HIGH), BAD);
        due("status()", x.status(), 0);
        due("row(0, 1, -1)", x.row(0, 1, -1), SIZE);
        due("row(0, 1, min)", x.row(0, 1, LOW), SIZE);
        due("drop(0), as it was", x.drop(0), 40);
        x.row(2, 2, 3);
        x.set(2, 1, 77);
        due("row(2, 2, 3) anew", x.row(2, 2, 3), 3);
        x.row(3, 2, 1);
        x.copy(2, 1, 3, 0, 1);
        due("items are 0 at first", firstItem(x, 3), 0);
    }

    /** Item 0 of a row of ints, told by fits(): on a sheet of one ordinary stamp it is what that pays. */
    static int firstItem(StampSheets x, int row) {
        read(x, "w1,1,0;o0;");
        x.row(7, 0, 1);
        for (int v = 0; v <= 9; v++) {
            x.value(0, v);
            if (x.fits(0, 7, 0, row, 0, 1) == 1023) {
                return v;
            }
        }
        return -1;
    }

    static void sets() {
        promise = 3;
        StampSheets x = new StampSheets();
        x.row(0, 0, 2);
        x.row(1, 1, 2);
        x.row(2, 2, 2);
        int[][] bytes = {{127, 127}, {128, -128}, {255, -1}, {256, 0}, {-129, 127}, {0x1234567, 0x67}};
        for (int[] b : bytes) {
            due("set(0, 1, " + b[0] + ")", x.set(0, 1, b[0]), b[1]);
        }
        int[][] shorts = {{32767, 32767}, {32768, -32768}, {65535, -1}, {65536, 0}, {-32769, 32767}, {128, 128}};
        for (int[] b : shorts) {
            due("set(1, 0, " + b[0] + ")", x.set(1, 0, b[0]), b[1]);
        }
        due("set(2, 0, min)", x.set(2, 0, LOW), LOW);
        due("set(2, 1, 65536)", x.set(2, 1, 65536), 65536);
        due("set(2, 2, 0)", x.set(2, 2, 0), PLACE);
        due("status()", x.status(), 2);
        due("set(2, -1, 0)", x.set(2, -1, 0), PLACE);
        due("set(2, max, 0)", x.set(2, HIGH, 0), PLACE);
        due("set(3, 99, 0)", x.set(3, 99, 0), NULL);
        due("status()", x.status(), 1);
        due("set(8, 0, 0)", x.set(8, 0, 0), BAD);
        due("set(-1, 0, 0)", x.set(-1, 0, 0), BAD);
        x.set(2, 0, 4);
        due("what was set stays", firstItem(x, 2), 4);
    }

    static void copies() {
        promise = 4;
        StampSheets x = new StampSheets();
        x.row(0, 2, 5);
        x.row(1, 2, 3);
        x.row(2, 1, 5);
        for (int i = 0; i < 5; i++) {
            x.set(0, i, i + 1);
        }
        due("copy upon itself, up", x.copy(0, 0, 0, 1, 4), 4);
        x.copy(0, 4, 1, 0, 1);
        due("as they were ahead", firstItem(x, 1), 4);
        x.set(0, 4, 9);
        due("copy upon itself, down", x.copy(0, 1, 0, 0, 4), 4);
        x.copy(0, 3, 1, 0, 1);
        due("as they were ahead", firstItem(x, 1), 9);
        due("copy of none at the ends", x.copy(0, 5, 1, 3, 0), 0);
        due("copy(0, 3, 1, 0, 3)", x.copy(0, 3, 1, 0, 3), PLACE);
        due("copy(0, 0, 1, 1, 3)", x.copy(0, 0, 1, 1, 3), PLACE);
        due("copy(0, -1, 1, 0, 1)", x.copy(0, -1, 1, 0, 1), PLACE);
        due("copy(0, 0, 1, -1, 1)", x.copy(0, 0, 1, -1, 1), PLACE);
        due("copy(0, 0, 1, 0, -1)", x.copy(0, 0, 1, 0, -1), PLACE);
        due("copy(0, max, 1, 0, max)", x.copy(0, HIGH, 1, 0, HIGH), PLACE);
        due("copy(0, 1, 1, 0, max)", x.copy(0, 1, 1, 0, HIGH), PLACE);
        due("copy(0, 6, 1, 0, 0)", x.copy(0, 6, 1, 0, 0), PLACE);
        due("status()", x.status(), 2);
        due("copy(0, 9, 2, 0, 1)", x.copy(0, 9, 2, 0, 1), STORE);
        due("status()", x.status(), 5);
        due("copy(0, 0, 3, 0, 1)", x.copy(0, 0, 3, 0, 1), NULL);
        due("copy(3, 0, 2, 0, 1)", x.copy(3, 0, 2, 0, 1), NULL);
        due("copy(0, 0, 8, 0, 1)", x.copy(0, 0, 8, 0, 1), BAD);
        due("copy(-1, 0, 0, 0, 1)", x.copy(-1, 0, 0, 0, 1), BAD);
        due("status()", x.status(), 1);
    }

    static void drops() {
        promise = 5;
        StampSheets x = new StampSheets();
        x.row(6, 0, 7);
        due("drop(6)", x.drop(6), 7);
        due("count(0)", x.count(0), 0);
        due("drop(6) again", x.drop(6), NULL);
        due("drop(8)", x.drop(8), BAD);
        due("drop(-1)", x.drop(-1), BAD);
        due("status()", x.status(), 1);
        due("set(6, 0, 0)", x.set(6, 0, 0), NULL);
        due("row(6, 2, 2)", x.row(6, 2, 2), 2);
        due("status()", x.status(), 0);
    }

    static void feeds() {
        promise = 6;
        StampSheets x = new StampSheets();
        due("feed(0)", x.feed(0), 1);
        due("feed(255)", x.feed(255), 2);
        due("feed(256)", x.feed(256), BAD);
        due("feed(-1)", x.feed(-1), BAD);
        for (int i = 3; i <= 120; i++) {
            due("feed(48)", x.feed(48), i);
        }
        due("feed(48) beyond", x.feed(48), FULL);
        due("feed(256) beyond", x.feed(256), BAD);
        due("count(7)", x.count(7), 120);
    }

    static void fault(String text, int place, int fault) {
        StampSheets x = open("w2,1,3;o4;u5;n0,9;");
        x.value(0, 7);
        x.serve(0, 1);
        List<Long> before = seen(x);
        before.remove(before.size() - 1);
        due("sheet() of '" + text + "'", read(x, text), -1000100 - place);
        due("fault() of '" + text + "'", x.fault(), fault);
        List<Long> after = seen(x);
        after.remove(after.size() - 1);
        due("all stays at '" + text + "'", after.equals(before) ? 0 : 1, 0);
        due("undo() still", x.undo(), 1);
    }

    static void sheets() {
        promise = 7;
        due("one", read(new StampSheets(), "w1,1,0;o0;"), 1);
        due("six", read(new StampSheets(), "w06,01,09;o00;u09;d1;a2;e3;o4;"), 6);
        due("five customers", read(new StampSheets(), "w1,1,0;o0;n0,0;n99,99;n0,99;n00,00;n5,05;"), 1);
        due("six high", read(new StampSheets(), "w1,6,0;o0;o0;o0;o0;o0;o0;"), 6);
        due("ten", read(new StampSheets(), "w5,2,0;o0;o0;o0;o0;o0;o0;o0;o0;o0;o0;"), 10);
        StampSheets x = open(NINE);
        x.serve(0, 1);
        x.spoil(8);
        x.over(1);
        x.drawn(0, 1, 0);
        due("another", read(x, "w2,1,3;o4;u5;n7,8;"), 2);
        due("all are on it", x.stand(0), 3);
        due("nobody is served", x.stand(1), 0);
        due("nothing was torn", x.stand(2), 0);
        due("over", x.stand(3), 3);
        due("none is spoilt", x.stand(4), 0);
        due("no act", x.undo(), STATE);
        due("customers", x.count(2), 1);
        due("customer(0, 2)", x.customer(0, 2), 0);
        due("the tape is empty", x.count(7), 0);
        due("fault() stays 0", x.fault(), 0);
    }

    static void faults() {
        promise = 8;
        fault("", 0, 1);
        fault("x", 0, 1);
        fault("1", 0, 1);
        fault("o1;", 0, 1);
        fault("w", 1, 1);
        fault("w,", 1, 1);
        fault("w0,", 1, 2);
        fault("w7", 1, 2);
        fault("w10,1,0;", 1, 2);
        fault("w006,1,0;", 1, 1);
        fault("w1", 2, 1);
        fault("w1;1,0;", 2, 1);
        fault("w1,0,0;", 3, 2);
        fault("w1,7,0;", 3, 2);
        fault("w4,3,0;", 3, 2);
        fault("w6,2,x", 3, 2);
        fault("w2,6,0;", 3, 2);
        fault("w1,1;0;", 4, 1);
        fault("w1,1,10;", 5, 2);
        fault("w1,1,100;", 5, 1);
        fault("w1,1,0,", 6, 1);
        fault("w1,1,0;", 7, 1);
        fault("w1,1,0;n0,0;", 7, 1);
        fault("w1,1,0;x0;", 7, 1);
        fault("w1,1,0;w0;", 7, 1);
        fault("w1,1,0;O0;", 7, 1);
        fault("w1,1,0; o0;", 7, 1);
        fault("w1,1,0;\u00eeo0;", 7, 1);
        fault("w1,1,0;o;", 8, 1);
        fault("w1,1,0;o10;", 8, 2);
        fault("w1,1,0;o000;", 8, 1);
        fault("w1,1,0;o1234;", 8, 1);
        fault("w1,1,0;o0,", 9, 1);
        fault("w1,1,0;o0;o0;", 10, 3);
        fault("w1,1,0;o0;e", 10, 3);
        fault("w1,1,0;o0;x", 10, 1);
        fault("w1,1,0;o0;;", 10, 1);
        fault("w1,1,0;o0;5", 10, 1);
        fault("w2,1,0;o0;n0,0;", 10, 1);
        fault("w1,1,0;o0;n", 11, 1);
        fault("w1,1,0;o0;n5;", 12, 1);
        fault("w1,1,0;o0;n5,4;", 13, 2);
        fault("w1,1,0;o0;n100,4;", 11, 1);
        fault("w1,1,0;o0;n5,100;", 13, 1);
        fault("w1,1,0;o0;n5,6,", 14, 1);
        fault("w1,1,0;o0;n5,6;o0;", 15, 1);
        fault("w1,1,0;o0;n5,6;w", 15, 1);
        fault("w1,1,0;o0;n0,0;n0,0;n0,0;n0,0;n0,0;n0,0;", 35, 3);
        fault("w1,1,0;o0;n0,0;n0,0;n0,0;n0,0;n0,0;o0;", 35, 1);
        StampSheets x = open("w1,1,0;o0;");
        due("fault() before one", x.fault(), 0);
        read(x, "w0");
        due("fault()", x.fault(), 2);
        read(x, "w1,1,0;o0;");
        due("fault() stays", x.fault(), 2);
        read(x, "w");
        due("fault(), the latest", x.fault(), 1);
    }

    static void undoes() {
        promise = 9;
        StampSheets x = open(NINE);
        due("undo() of none", x.undo(), STATE);
        List<List<Long>> states = new ArrayList<>();
        states.add(seen(x));
        x.serve(0, 1);
        states.add(seen(x));
        x.spoil(7);
        states.add(seen(x));
        x.value(0, 9);
        states.add(seen(x));
        x.bringBack(0);
        states.add(seen(x));
        x.over(0);
        due("count(6)", x.count(6), 5);
        for (int left = 4; left >= 0; left--) {
            due("undo()", x.undo(), left);
            same("act and undo", x, states.get(left));
        }
        due("undo() of none", x.undo(), STATE);
        for (int i = 0; i < 30; i++) {
            x.value(i % 2, (i + 1) % 10);
        }
        due("24 are kept", x.count(6), 24);
        for (int left = 23; left >= 0; left--) {
            due("undo() of 24", x.undo(), left);
        }
        due("undo() of the forgotten", x.undo(), STATE);
        due("cell 0 as the fifth left it", x.cell(0, 0), 5);
        due("cell 1 as the sixth left it", x.cell(1, 0), 6);
        x.value(2, 9);
        due("an act that alters nothing is one", x.undo(), 0);
    }

    static void serves() {
        promise = 10;
        StampSheets x = open(NINE);
        due("serve(0, 3): too much", x.serve(0, 3), STATE);
        due("serve(0, 4): too little", x.serve(0, 4), STATE);
        due("serve(0, 1)", x.serve(0, 1), 2);
        due("serve(0, 2): is", x.serve(0, 2), STATE);
        due("serve(1, 1): sold", x.serve(1, 1), BAD);
        due("serve(0, 1): BAD ahead of STATE", x.serve(0, 1), BAD);
        due("serve(1, 56)", x.serve(1, 56), 5);
        due("torn", x.stand(2), 7);
        due("on the sheet", x.stand(0), 511 - 57);
        due("served", x.stand(1), 3);
        due("serve(2, 0)", x.serve(2, 0), BAD);
        due("serve(2, 512)", x.serve(2, 512), BAD);
        due("serve(2, -1)", x.serve(2, -1), BAD);
        due("serve(2, 66): not together", x.serve(2, 66), BAD);
        due("serve(3, 64)", x.serve(3, 64), BAD);
        due("serve(-1, 64)", x.serve(-1, 64), BAD);
        due("serve(2, 64): LEAST is enough", x.serve(2, 64), 1);
        due("count(6)", x.count(6), 3);
        StampSheets y = open("w1,1,0;o9;n1,9;");
        due("serve: MOST is not too much", y.serve(0, 1), 0);
    }

    static void backs() {
        promise = 11;
        StampSheets x = open(NINE);
        due("bringBack(0): not served", x.bringBack(0), STATE);
        due("bringBack(3)", x.bringBack(3), BAD);
        due("bringBack(-1)", x.bringBack(-1), BAD);
        x.serve(1, 56);
        x.value(4, 9);
        due("bringBack(1), as it pays now", x.bringBack(1), 27);
        due("on the sheet", x.stand(0), 511);
        due("served", x.stand(1), 0);
        due("torn stays", x.stand(2), 6);
        due("bringBack(1) again", x.bringBack(1), STATE);
        x.serve(0, 2);
        x.over(0);
        due("bringBack(0), by another OVER", x.bringBack(0), 2);
    }

    static void spoils() {
        promise = 12;
        StampSheets x = open(NINE);
        due("spoil(8)", x.spoil(8), 8);
        due("spoil(8) again", x.spoil(8), STATE);
        x.serve(0, 1);
        due("spoil(0), sold", x.spoil(0), STATE);
        due("spoil(9)", x.spoil(9), BAD);
        due("spoil(-1)", x.spoil(-1), BAD);
        due("spoilt", x.stand(4), 256);
        due("on the sheet", x.stand(0), 254);
        due("torn", x.stand(2), 2);
    }

    static void values() {
        promise = 13;
        StampSheets x = open(NINE);
        due("value(0, 9)", x.value(0, 9), 5);
        due("value(0, 0)", x.value(0, 0), 9);
        due("value(0, 10)", x.value(0, 10), BAD);
        due("value(0, -1)", x.value(0, -1), BAD);
        due("value(9, 1)", x.value(9, 1), BAD);
        due("value(-1, 1)", x.value(-1, 1), BAD);
        due("cell(0, 0)", x.cell(0, 0), 0);
        x.spoil(1);
        due("value(1, 3), spoilt", x.value(1, 3), 2);
        due("cell(1, 0)", x.cell(1, 0), 3);
        due("count(6)", x.count(6), 4);
    }

    static void overs() {
        promise = 14;
        due("over(10), no sheet", new StampSheets().over(10), STATE);
        StampSheets x = open(NINE);
        due("over(9)", x.over(9), 4);
        due("over(0)", x.over(0), 9);
        due("over(10)", x.over(10), BAD);
        due("over(-1)", x.over(-1), BAD);
        due("stand(3)", x.stand(3), 0);
        due("piece(2, 0)", x.piece(2, 0), 2);
        due("count(6)", x.count(6), 2);
    }

    static void cells() {
        promise = 15;
        StampSheets x = open(NINE);
        x.serve(1, 56);
        x.spoil(8);
        int[][] want = {{5, 0, 2, NONE}, {2, 0, 5, NONE}, {9, 0, 2, NONE}, {3, 1, 65, 1}, {2, 1, 130, 1},
            {1, 1, 4, 1}, {0, 0, 128, NONE}, {4, 0, 64, NONE}, {7, 2, 128, NONE}};
        for (int c = 0; c < 9; c++) {
            for (int what = 0; what < 4; what++) {
                due("cell(" + c + ", " + what + ")", x.cell(c, what), want[c][what]);
            }
        }
        due("cell(9, 0)", x.cell(9, 0), BAD);
        due("cell(-1, 0)", x.cell(-1, 0), BAD);
        due("cell(0, 4)", x.cell(0, 4), BAD);
        due("cell(0, -1)", x.cell(0, -1), BAD);
        due("customer 0", open("w1,1,0;o0;n0,0;").cell(0, 3), NONE);
    }

    static void customers() {
        promise = 16;
        StampSheets x = open(NINE);
        x.serve(1, 56);
        due("customer(0, 0)", x.customer(0, 0), 5);
        due("customer(1, 1)", x.customer(1, 1), 20);
        due("customer(1, 2)", x.customer(1, 2), 56);
        due("customer(2, 2)", x.customer(2, 2), 0);
        due("customer(3, 0)", x.customer(3, 0), BAD);
        due("customer(-1, 0)", x.customer(-1, 0), BAD);
        due("customer(0, 3)", x.customer(0, 3), BAD);
        due("customer(0, -1)", x.customer(0, -1), BAD);
    }

    static void stands() {
        promise = 17;
        StampSheets x = open(NINE);
        x.serve(1, 56);
        x.spoil(8);
        int[] want = {511 - 56 - 256, 2, 6, 4, 256};
        for (int what = 0; what < 5; what++) {
            due("stand(" + what + ")", x.stand(what), want[what]);
        }
        due("stand(5)", x.stand(5), BAD);
        due("stand(-1)", x.stand(-1), BAD);
    }

    static void pieceCalls() {
        promise = 18;
        StampSheets x = open(NINE);
        int[] alone = {5, 6, 4, 0, 5, 0, 0, 2, 11};
        for (int c = 0; c < 9; c++) {
            due("piece(1 << " + c + ", 0)", x.piece(1 << c, 0), alone[c]);
        }
        int[][] want = {{56, 13, 6, 3, 2}, {511, 41, 0, 9, 0}, {24, 3 + 7, 5, 2, 1}, {16, 5, 4, 1, 1}, {7, 15, 3, 3, 1}};
        for (int[] w : want) {
            for (int what = 0; what < 4; what++) {
                due("piece(" + w[0] + ", " + what + ")", x.piece(w[0], what), w[1 + what]);
            }
        }
        for (int bad : new int[] {0, -1, LOW, HIGH, 512, 5, 40, 1023, 1024}) {
            due("piece(" + bad + ", 0)", x.piece(bad, 0), BAD);
        }
        due("piece(1, 4)", x.piece(1, 4), BAD);
        due("piece(1, -1)", x.piece(1, -1), BAD);
        x.spoil(4);
        due("without the middle", x.piece(56, 0), BAD);
        due("a tear less", x.piece(2, 1), 2);
        // Rows of a sheet do not hang on one another by their ends.
        due("ends of rows", x.piece(12, 0), BAD);
    }

    static void partsCalls() {
        promise = 19;
        due("parts(-2), no sheet", new StampSheets().parts(-2), STATE);
        StampSheets x = open(NINE);
        due("parts(-1)", x.parts(-1), 1);
        due("parts(0)", x.parts(0), 511);
        x.serve(1, 56);
        due("parts(-1), torn", x.parts(-1), 2);
        due("parts(0), torn", x.parts(0), 7);
        due("parts(1), torn", x.parts(1), 448);
        due("parts(2), torn", x.parts(2), NONE);
        due("parts(max)", x.parts(HIGH), NONE);
        due("parts(-2)", x.parts(-2), BAD);
        x.spoil(1);
        due("parts(-1), three", x.parts(-1), 3);
        due("parts(1), three", x.parts(1), 4);
        StampSheets y = open("w5,2,0;o0;o0;o0;o0;o0;o0;o0;o0;o0;o0;");
        for (int c : new int[] {1, 3, 5, 7, 9}) {
            y.spoil(c);
        }
        due("five parts", y.parts(-1), 5);
        due("the last", y.parts(4), 256);
        due("none more", y.parts(5), NONE);
    }

    static void piecesCalls() {
        promise = 20;
        due("pieces(0, 9), no sheet", new StampSheets().pieces(0, 9), STATE);
        StampSheets x = open(NINE);
        due("pieces(1, 0)", x.pieces(1, 0), 218);
        due("pieces(10, 0)", x.pieces(10, 0), 218);
        int[][] want = {{9, 9}, {12, 12}, {22, 6}, {36, 0}, {49, 0}, {48, 0}, {32, 0}, {9, 0}, {1, 0}, {0, 0}};
        for (int n = 1; n <= 10; n++) {
            due("pieces(" + n + ", 1)", x.pieces(n, 1), want[n - 1][0]);
            due("pieces(" + n + ", 2)", x.pieces(n, 2), want[n - 1][1]);
        }
        due("pieces(0, 0)", x.pieces(0, 0), BAD);
        due("pieces(11, 0)", x.pieces(11, 0), BAD);
        due("pieces(1, 3)", x.pieces(1, 3), BAD);
        due("pieces(1, -1)", x.pieces(1, -1), BAD);
        x.spoil(4);
        due("straight ones without the middle", x.pieces(3, 2), 4);
        StampSheets y = open("w6,1,0;o0;o0;o0;o0;o0;o0;");
        due("a strip", y.pieces(4, 2), 3);
        due("a strip, all", y.pieces(4, 0), 21);
    }

    static void sumsCalls() {
        promise = 21;
        due("sums(9), no sheet", new StampSheets().sums(9), STATE);
        StampSheets x = open("w2,1,0;o0;o1;");
        due("sums(0)", x.sums(0), 2);
        due("sums(1)", x.sums(1), 2);
        due("sums(2)", x.sums(2), 1);
        due("sums(3)", x.sums(3), BAD);
        due("sums(-1)", x.sums(-1), BAD);
        x.spoil(0);
        x.spoil(1);
        due("sums(0), none", x.sums(0), 0);
        due("sums(1), none", x.sums(1), 0);
        due("sums(2), none", x.sums(2), 0);
        StampSheets y = open("w5,2,6;d5;e9;e6;a9;u9;u2;d6;d3;e8;e8;");
        due("all from 0 to 99", y.sums(0), 100);
        due("all from 0 to 99", y.sums(1), NONE);
        due("the greatest", y.sums(2), y.piece(1023, 0));
        StampSheets z = open("w2,5,0;e9;e9;e9;e9;e9;e9;e9;e9;e9;e9;");
        due("beyond 99", z.sums(2), 13 * 18 + 50);
    }

    static void bests() {
        promise = 22;
        StampSheets x = open(NINE);
        due("best(0, 0)", x.best(0, 0), 1);
        due("best(0, 1)", x.best(0, 1), 2);
        due("best(2, 0)", x.best(2, 0), 64);
        due("best(3, 0)", x.best(3, 0), BAD);
        due("best(-1, 0)", x.best(-1, 0), BAD);
        due("best(0, 2)", x.best(0, 2), BAD);
        due("best(0, -1)", x.best(0, -1), BAD);
        x.serve(0, 1);
        due("best(0, 0), served", x.best(0, 0), STATE);
        due("best(0, 2), BAD ahead", x.best(0, 2), BAD);
        StampSheets y = open("w4,1,0;o1;o2;o2;o1;n2,2;n3,3;n4,4;n9,9;n1,6;");
        due("fewest TEARS, of two stamps", y.best(0, 1), 2);
        due("of equal ones the least", y.best(0, 0), 2);
        due("at the end a tear less", y.best(1, 0), 3);
        due("its TEARS", y.best(1, 1), 1);
        due("two within", y.best(2, 0), 6);
        due("none", y.best(3, 0), NONE);
        due("none", y.best(3, 1), NONE);
        due("all, by no TEAR", y.best(4, 0), 15);
        due("all, by no TEAR", y.best(4, 1), 0);
        StampSheets z = open("w3,1,0;o0;o2;o2;n2,2;");
        due("of as many TEARS the fewest STAMPS", z.best(0, 0), 4);
    }

    static void waysCalls() {
        promise = 23;
        StampSheets x = open("w4,1,0;o1;o2;o2;o1;n2,2;n3,3;n4,5;n9,9;n0,99;");
        int[] want = {2, 2, 3, 0, 10};
        for (int c = 0; c < 5; c++) {
            due("ways(" + c + ")", x.ways(c), want[c]);
        }
        due("ways(5)", x.ways(5), BAD);
        due("ways(-1)", x.ways(-1), BAD);
        x.serve(0, 2);
        due("ways(0), served", x.ways(0), STATE);
        due("ways(4), of what is left", x.ways(4), 4);
    }

    static void thrifts() {
        promise = 24;
        StampSheets x = open("w4,1,0;o3;o2;o2;o1;n2,9;n3,3;n8,9;n4,4;");
        due("thrift(0, 0)", x.thrift(0, 0), 2);
        due("thrift(0, 1)", x.thrift(0, 1), 2);
        due("thrift(1, 0)", x.thrift(1, 0), 1);
        due("thrift(2, 0)", x.thrift(2, 0), 15);
        due("thrift(2, 1)", x.thrift(2, 1), 8);
        due("thrift(3, 0)", x.thrift(3, 0), 6);
        due("thrift(4, 0)", x.thrift(4, 0), BAD);
        due("thrift(0, 2)", x.thrift(0, 2), BAD);
        x.serve(0, 2);
        due("thrift(0, 0), served", x.thrift(0, 0), STATE);
        due("thrift(2, 0), none", x.thrift(2, 0), NONE);
        due("thrift(2, 1), none", x.thrift(2, 1), NONE);
        StampSheets y = open("w2,1,0;o9;o2;n0,99;");
        due("the cheapest is not the least", y.thrift(0, 0), 2);
    }

    static void servings() {
        promise = 25;
        due("serving(-9), no sheet", new StampSheets().serving(-9), STATE);
        StampSheets x = open("w3,1,0;o1;o2;o4;n9,9;n1,4;n6,6;n1,1;n6,7;");
        due("how many", x.serving(-1), 2);
        due("who: of 6, 10, 12, 18, 24 the least", x.serving(-2), 6);
        due("serving(0)", x.serving(0), 0);
        due("serving(1), the least bits first", x.serving(1), 1);
        due("serving(2)", x.serving(2), 6);
        due("serving(3)", x.serving(3), 0);
        due("serving(4)", x.serving(4), 0);
        due("serving(5)", x.serving(5), BAD);
        due("serving(-3)", x.serving(-3), BAD);
        x.serve(2, 6);
        due("but those served", x.serving(-1), 1);
        due("who, but those served", x.serving(-2), 2);
        due("serving(2), served", x.serving(2), 0);
        x.undo();
        x.value(2, 2);
        due("who", x.serving(-2), 10);
        due("serving(1), so that both are", x.serving(1), 2);
        due("serving(3)", x.serving(3), 1);
        StampSheets y = open("w2,1,0;o1;o1;");
        due("no customers", y.serving(-1), 0);
        due("no customers", y.serving(-2), 0);
        due("no customers", y.serving(0), BAD);
        StampSheets z = open("w5,1,0;o1;o1;o1;o1;o1;n1,5;n1,5;n1,5;n1,5;n1,5;");
        due("all five", z.serving(-2), 31);
        due("the last of five", z.serving(4), 16);
    }

    static void couplesCalls() {
        promise = 26;
        due("no sheet", new StampSheets().couples(), STATE);
        due("one", open("w1,1,0;o0;").couples(), 0);
        due("two", open("w1,2,0;o0;o0;").couples(), 1);
        due("four", open("w2,2,0;o0;o0;o0;o0;").couples(), 2);
        due("six", open("w2,3,0;o0;o0;o0;o0;o0;o0;").couples(), 3);
        due("eight", open("w4,2,0;o0;o0;o0;o0;o0;o0;o0;o0;").couples(), 5);
        due("ten", open("w5,2,0;o0;o0;o0;o0;o0;o0;o0;o0;o0;o0;").couples(), 8);
        StampSheets x = open(NINE);
        due("nine", x.couples(), 0);
        x.spoil(4);
        due("a ring", x.couples(), 2);
        x.spoil(1);
        due("seven", x.couples(), 0);
        StampSheets y = open("w2,1,0;o0;o0;");
        y.spoil(0);
        y.spoil(1);
        due("none", y.couples(), 1);
    }

    static void partings() {
        promise = 27;
        StampSheets x = open(NINE);
        due("parting(0, 8, 0)", x.parting(0, 8, 0), 2);
        due("parting(0, 8, 1)", x.parting(0, 8, 1), 1);
        due("parting(4, 0, 0)", x.parting(4, 0, 0), 2);
        due("parting(4, 0, 1)", x.parting(4, 0, 1), 510);
        due("parting(1, 7, 0)", x.parting(1, 7, 0), 3);
        due("parting(1, 7, 1), the least", x.parting(1, 7, 1), 2);
        due("parting(0, 0, 0)", x.parting(0, 0, 0), BAD);
        due("parting(0, 9, 0)", x.parting(0, 9, 0), BAD);
        due("parting(-1, 0, 0)", x.parting(-1, 0, 0), BAD);
        due("parting(0, 8, 2)", x.parting(0, 8, 2), BAD);
        due("parting(0, 8, -1)", x.parting(0, 8, -1), BAD);
        x.spoil(4);
        due("parting(4, 0, 0)", x.parting(4, 0, 0), STATE);
        due("parting(0, 4, 0)", x.parting(0, 4, 0), STATE);
        due("parting(4, 0, 2), BAD ahead", x.parting(4, 0, 2), BAD);
        x.spoil(1);
        due("in line", x.parting(2, 0, 0), 1);
        due("in line", x.parting(0, 2, 1), 1);
        due("in line", x.parting(7, 2, 1), 128 + 64 + 8 + 1);
        x.spoil(7);
        due("parted already", x.parting(0, 2, 0), 0);
        due("parted already", x.parting(0, 2, 1), 73);
    }

    static void wayCalls() {
        promise = 28;
        StampSheets x = open(NINE);
        due("way(0, 8, 0)", x.way(0, 8, 0), 4);
        due("way(0, 8, 1)", x.way(0, 8, 1), 1);
        due("way(8, 0, 1)", x.way(8, 0, 1), 5);
        due("way(0, 1, 0)", x.way(0, 1, 0), 1);
        due("way(0, 1, 1)", x.way(0, 1, 1), 1);
        due("way(0, 0, 0)", x.way(0, 0, 0), BAD);
        due("way(0, 9, 0)", x.way(0, 9, 0), BAD);
        due("way(-1, 0, 0)", x.way(-1, 0, 0), BAD);
        due("way(0, 1, 2)", x.way(0, 1, 2), BAD);
        due("way(0, 1, -1)", x.way(0, 1, -1), BAD);
        x.spoil(1);
        due("way(0, 2, 0)", x.way(0, 2, 0), 4);
        due("way(0, 2, 1)", x.way(0, 2, 1), 3);
        due("way(1, 0, 0)", x.way(1, 0, 0), STATE);
        due("way(0, 1, 0)", x.way(0, 1, 0), STATE);
        x.spoil(4);
        due("way(0, 2, 0), all around", x.way(0, 2, 0), 6);
        x.spoil(7);
        due("way(0, 2, 0), none", x.way(0, 2, 0), NONE);
        due("way(0, 2, 1), none", x.way(0, 2, 1), NONE);
        StampSheets y = open("w2,5,0;o0;o0;o0;o0;o0;o0;o0;o0;o0;o0;");
        y.spoil(2);
        y.spoil(7);
        due("way(0, 8, 0)", y.way(0, 8, 0), 6);
    }

    static void lones() {
        promise = 29;
        due("no sheet", new StampSheets().lone(), STATE);
        due("a strip", open("w4,1,0;o0;o0;o0;o0;").lone(), 6);
        due("two", open("w2,1,0;o0;o0;").lone(), 0);
        StampSheets x = open(NINE);
        due("nine", x.lone(), 0);
        x.spoil(0);
        x.spoil(2);
        due("a roof", x.lone(), 16);
        x.spoil(4);
        due("one alone is not", x.lone(), 128 + 64 + 256);
    }

    static StampSheets told(String text, int[] cells, int[] pays) {
        StampSheets x = open(text);
        x.row(0, 0, cells.length);
        x.row(1, 2, pays.length);
        for (int i = 0; i < cells.length; i++) {
            x.set(0, i, cells[i]);
        }
        for (int i = 0; i < pays.length; i++) {
            x.set(1, i, pays[i]);
        }
        return x;
    }

    static void whos() {
        promise = 30;
        StampSheets x = told(NINE, new int[] {0, 1}, new int[] {5, 11});
        due("KINDS of 0: 5 by an express one, too", x.who(0, 0, 0, 0, 1, 0, 2), 1 << 1 | 1 << 5);
        due("VALUES of 0", x.who(0, 1, 0, 0, 1, 0, 2), 1 << 5);
        due("KINDS of 1", x.who(1, 0, 0, 0, 1, 0, 2), 1 << 2);
        due("KINDS of another", x.who(8, 0, 0, 0, 1, 0, 2), 62);
        due("VALUES of another", x.who(8, 1, 0, 0, 1, 0, 2), 1023);
        due("it stays", x.piece(3, 0), 11);
        x.set(1, 0, 2);
        x.set(1, 1, 8);
        due("half of 5 by a damaged one", x.who(0, 0, 0, 0, 1, 0, 2), 1 << 3);
        due("an ordinary 2", x.who(0, 1, 0, 0, 1, 0, 2), 1 << 2);
        StampSheets y = told("w2,1,0;a3;d5;", new int[] {1, 0}, new int[] {5, 8});
        due("express", y.who(1, 0, 0, 0, 1, 0, 2), 0);
        y.set(1, 1, 13);
        due("express: 5, and 3, and 5", y.who(1, 0, 0, 0, 1, 0, 2), 1 << 5);
        y.set(1, 0, 2);
        y.set(1, 1, 2);
        due("4, or 5 by half", y.who(1, 1, 0, 0, 1, 0, 2), 1 << 4 | 1 << 5);
        y.spoil(1);
        due("wherever it is", y.who(1, 1, 0, 0, 1, 0, 2), 1 << 4 | 1 << 5);
        due("one row for both", y.who(1, 1, 0, 0, 0, 1, 1), 1 << 0 | 1 << 1);
        due("status()", y.status(), 0);
        whosRefused(x);
    }

    static void whosRefused(StampSheets x) {
        List<Long> before = seen(x);
        due("CELL", x.who(9, 0, 0, 0, 1, 0, 1), BAD);
        due("which", x.who(0, 2, 0, 0, 1, 0, 1), BAD);
        due("which", x.who(0, -1, 0, 0, 1, 0, 1), BAD);
        due("ROW", x.who(0, 0, 8, 0, 1, 0, 1), BAD);
        due("other ROW", x.who(0, 0, 0, 0, -1, 0, 1), BAD);
        due("n of 0", x.who(0, 0, 0, 0, 1, 0, 0), BAD);
        due("n of 11", x.who(0, 0, 0, 0, 1, 0, 11), BAD);
        due("NULL", x.who(0, 0, 5, 0, 1, 0, 1), NULL);
        due("status()", x.status(), 1);
        due("PLACE", x.who(0, 0, 0, 1, 6, 0, 2), PLACE);
        due("PLACE", x.who(0, 0, 0, -1, 1, 0, 1), PLACE);
        due("PLACE", x.who(0, 0, 0, HIGH, 1, 0, 1), PLACE);
        x.set(0, 1, 9);
        due("KIND, no cell", x.who(0, 0, 0, 0, 6, 0, 2), KIND);
        due("status()", x.status(), 3);
        x.set(0, 1, -1);
        due("KIND, no cell", x.who(0, 0, 0, 0, 1, 0, 2), KIND);
        x.set(0, 1, 0);
        due("KIND, told ahead", x.who(0, 0, 0, 0, 1, 0, 2), KIND);
        due("KIND ahead of PLACE", x.who(0, 0, 0, 0, 1, 9, 2), KIND);
        x.set(0, 1, 1);
        due("NULL of the other", x.who(0, 0, 0, 0, 6, 0, 2), NULL);
        due("PLACE of the other", x.who(0, 0, 0, 0, 1, 1, 2), PLACE);
        due("PLACE of the other", x.who(0, 0, 0, 0, 1, -1, 1), PLACE);
        same("what is refused", x, before);
    }

    static void fitsCalls() {
        promise = 31;
        due("no sheet", new StampSheets().fits(9, 9, 0, 0, 0, 0), STATE);
        StampSheets x = told("w2,2,3;u1;u2;o4;d9;", new int[] {0, 2, 1}, new int[] {4, 8, 13});
        due("OVERS", x.fits(0, 0, 0, 1, 0, 1), 1 << 3);
        due("OVERS", x.fits(0, 0, 0, 1, 0, 3), 1 << 3);
        due("OVERS of what is not stamped over", x.fits(0, 0, 1, 1, 0, 1), 1023);
        // 0 pays 4 as it is, with 3 for it, with 2 for it; the others do not matter.
        due("SWAPPED, how many", x.fits(1, 0, 0, 1, 0, 1), 3 + 2);
        due("SWAPPED, the first", x.fits(2, 0, 0, 1, 0, 1), 2);
        due("none", x.fits(1, 0, 0, 1, 2, 1), 0);
        due("none", x.fits(2, 0, 0, 1, 2, 1), NONE);
        StampSheets z = told("w2,2,3;u1;u2;o4;d9;", new int[] {1}, new int[] {4});
        due("SWAPPED, three", z.fits(1, 0, 0, 1, 0, 1), 3);
        due("SWAPPED, 0 and 1 first", z.fits(2, 0, 0, 1, 0, 1), 1);
        z.set(0, 0, 3);
        due("SWAPPED, 2 and 3", z.fits(2, 0, 0, 1, 0, 1), 1);
        z.set(1, 0, 5);
        due("SWAPPED, 1 and 3", z.fits(2, 0, 0, 1, 0, 1), 13);
        due("it stays", z.piece(2, 0), 5);
        StampSheets y = told("w1,1,0;o4;", new int[] {0}, new int[] {4});
        due("no pairs of one", y.fits(1, 0, 0, 1, 0, 1), 0);
        due("no pairs of one", y.fits(2, 0, 0, 1, 0, 1), NONE);
        due("all OVERS", y.fits(0, 0, 0, 1, 0, 1), 1023);
        fitsRefused(x);
    }

    static void fitsRefused(StampSheets x) {
        List<Long> before = seen(x);
        due("which", x.fits(3, 0, 0, 1, 0, 1), BAD);
        due("which", x.fits(-1, 0, 0, 1, 0, 1), BAD);
        due("ROW", x.fits(0, -1, 0, 1, 0, 1), BAD);
        due("other ROW", x.fits(0, 0, 0, 8, 0, 1), BAD);
        due("n", x.fits(0, 0, 0, 1, 0, 0), BAD);
        due("n", x.fits(0, 0, 0, 1, 0, 11), BAD);
        due("NULL", x.fits(0, 4, 0, 4, 0, 1), NULL);
        due("PLACE", x.fits(0, 0, 0, 4, 0, 4), PLACE);
        x.set(0, 2, 2);
        due("KIND", x.fits(0, 0, 0, 4, 0, 3), KIND);
        due("NULL of the other", x.fits(0, 0, 0, 4, 0, 2), NULL);
        due("PLACE of the other", x.fits(0, 0, 0, 1, 2, 2), PLACE);
        due("status()", x.status(), 2);
        same("what is refused", x, before);
        due("fine", x.fits(0, 0, 0, 1, 0, 2), 1 << 3);
        due("status()", x.status(), 0);
    }

    static void fraction(StampSheets x, int piece, int k, int p, long above, long below) {
        due("wrong(" + piece + ", " + k + ", " + p + ", 0)", x.wrong(piece, k, p, 0), above);
        due("wrong(" + piece + ", " + k + ", " + p + ", 1)", x.wrong(piece, k, p, 1), below);
    }

    static void wrongs() {
        promise = 32;
        StampSheets x = open(NINE);
        fraction(x, 16, 0, 5, 1, 16);
        fraction(x, 16, 1, 5, 5, 16);
        fraction(x, 16, 3, 5, 15, 16);
        fraction(x, 16, 4, 5, 1, 1);
        fraction(x, 16, 10, 5, 1, 1);
        fraction(x, 16, 0, 0, 1, 1);
        fraction(x, 16, 3, 10, 0, 1);
        fraction(x, 16, 4, 10, 1, 1);
        fraction(x, 16, 0, 1, 6561, 10000);
        fraction(x, 511, 0, 10, 1, 1);
        // All but the corners: each corner is lost by one of two tears.
        fraction(x, 186, 0, 5, 1, 256);
        fraction(x, 186, 1, 5, 13, 256);
        fraction(x, 186, 0, 7, 6561, 100000000);
        due("BAD piece", x.wrong(5, 0, 0, 0), BAD);
        due("BAD piece", x.wrong(0, 0, 0, 0), BAD);
        due("BAD k", x.wrong(16, 11, 0, 0), BAD);
        due("BAD k", x.wrong(16, -1, 0, 0), BAD);
        due("BAD p", x.wrong(16, 0, 11, 0), BAD);
        due("BAD p", x.wrong(16, 0, -1, 0), BAD);
        due("BAD what", x.wrong(16, 0, 0, 2), BAD);
        due("BAD what", x.wrong(16, 0, 0, -1), BAD);
        x.spoil(1);
        fraction(x, 16, 0, 5, 1, 8);
    }

    static void draws() {
        promise = 33;
        due("no sheet", new StampSheets().drawn(-1, 0, 9), STATE);
        // From 1 on X is 16807, 282475249, 1622650073, 984943658; none of these by 3 leaves 0.
        StampSheets x = open("w2,1,0;o1;o2;n1,1;");
        List<Long> before = seen(x);
        int[][] want = {{0, 0}, {1, 1}, {0, 1}, {1, 2}, {0, 2}};
        for (int n = 0; n < want.length; n++) {
            due("drawn(" + n + ", 1, 0)", x.drawn(n, 1, 0), want[n][0]);
            due("drawn(" + n + ", 1, 1)", x.drawn(n, 1, 1), want[n][1]);
        }
        // From 6 on X is 100842 at first: cell 0 is spoilt; then there is no piece for the customer.
        due("drawn(2, 6, 0)", x.drawn(2, 6, 0), 0);
        due("drawn(60, 999999, 0) ends", x.drawn(60, 999999, 0) >= 0 ? 1 : 0, 1);
        same("drawn()", x, before);
        x.serve(0, 1);
        due("from what stands", x.drawn(0, 5, 0), 1);
        due("from what stands", x.drawn(1, 1, 0), 0);
        due("from what stands", x.drawn(1, 1, 1), 1);
        due("n of -1", x.drawn(-1, 1, 0), BAD);
        due("n of 61", x.drawn(61, 1, 0), BAD);
        due("seed of 0", x.drawn(1, 0, 0), BAD);
        due("seed of 1000000", x.drawn(1, 1000000, 0), BAD);
        due("what", x.drawn(1, 1, 2), BAD);
        due("what", x.drawn(1, 1, -1), BAD);
        // Of 4 cells 16807 spoils the last, 282475249 the second; with no customers none is served.
        StampSheets y = open("w2,2,0;o1;o1;o1;o1;");
        due("no customers", y.drawn(60, 1, 0), 0);
        due("no customers", y.drawn(60, 1, 1), 0);
    }

    static void images() {
        promise = 34;
        StampSheets x = new StampSheets();
        due("image(2)", x.image(2), BAD);
        due("image(-1)", x.image(-1), BAD);
        due("image(0), no sheet", x.image(0), STATE);
        due("restore(0), none", x.restore(0), STATE);
        read(x, NINE);
        x.serve(1, 56);
        x.value(0, 1);
        List<Long> before = seen(x);
        due("image(1)", x.image(1), 1);
        same("image()", x, before);
        due("restore(0), none", x.restore(0), STATE);
        promise = 35;
        x.bringBack(1);
        x.spoil(3);
        x.over(9);
        x.value(4, 7);
        due("image(0)", x.image(0), 1);
        due("restore(1)", x.restore(1), 1);
        before.set(6, 0L);
        same("restored but for the acts, it", x, before);
        due("no act", x.undo(), STATE);
        read(x, "w1,2,0;o1;o1;");
        due("another form", x.piece(3, 0), 2);
        due("restore(0)", x.restore(0), 1);
        due("over", x.stand(3), 9);
        due("spoilt", x.stand(4), 8);
        due("torn", x.stand(2), 6);
        due("its form", x.piece(3, 0), 12);
        due("its form", x.piece(5, 0), BAD);
        due("restore(2)", x.restore(2), BAD);
        due("restore(-1)", x.restore(-1), BAD);
        x.spoil(0);
        due("restore(0) again", x.restore(0), 1);
        due("the image was kept", x.stand(4), 8);
    }

    static void kinds() {
        promise = 36;
        StampSheets x = open(NINE);
        int[] want = {1, 2, 3, 4, 5, 4, 1, 3, 2};
        for (int c = 0; c < 9; c++) {
            due("kind(" + c + ")", x.kind(c), want[c]);
        }
        due("kind(9)", x.kind(9), BAD);
        due("kind(-1)", x.kind(-1), BAD);
        promise = 37;
        String[] is = {"", "01", "012", "013", "04", "045"};
        for (int c = 0; c < 9; c++) {
            for (int kind = 0; kind < 6; kind++) {
                boolean so = is[want[c]].contains("" + kind);
                due("as(" + c + ", " + kind + ")", x.as(c, kind), so ? c : KIND);
                due("status()", x.status(), so ? 0 : 3);
            }
        }
        x.as(0, 5);
        due("as(9, 0)", x.as(9, 0), BAD);
        due("as(-1, 0)", x.as(-1, 0), BAD);
        due("as(0, 6)", x.as(0, 6), BAD);
        due("as(0, -1)", x.as(0, -1), BAD);
        due("status()", x.status(), 3);
    }

    static void ask(StampSheets x, int one, int what, int want, int... trace) {
        promise = 38;
        due("ask(" + one + ", " + what + ")", x.ask(one, what), want);
        promise = 39;
        for (int i = 0; i < 16; i++) {
            due("trace(" + i + ") of ask(" + one + ", " + what + ")", x.trace(i), i < trace.length ? trace[i] : NONE);
        }
    }

    static void asks() {
        StampSheets x = open(NINE);
        ask(x, 6, 0, 0 + 10, 11, 10, 21, 20);
        ask(x, 6, 1, 6 + 4, 21, 20);
        ask(x, 8, 0, -(7 + 24), 12, 11, 10, 24, 21, 20);
        ask(x, 8, 1, 2 * (8 + 4), 24, 21, 20);
        ask(x, 7, 0, 4 + 7 + 4 - 1000, 11, 10, 22, 21, 20);
        ask(x, 7, 1, 7 + 4 - 1000, 22, 21, 20);
        ask(x, 3, 0, 3 - 100, 13, 10);
        ask(x, 3, 1, 3 - (3 - 100), 23, 20, 13, 10);
        ask(x, 4, 0, 2 * (2 - 100), 14, 13, 10);
        ask(x, 4, 1, 4 - 2 * (2 - 100), 23, 20, 14, 13, 10);
        promise = 38;
        due("ask(9, 0)", x.ask(9, 0), BAD);
        due("ask(-1, 0)", x.ask(-1, 0), BAD);
        due("ask(0, 2)", x.ask(0, 2), BAD);
        due("ask(0, -1)", x.ask(0, -1), BAD);
        promise = 39;
        due("what is refused leaves THE TRACE", x.trace(4), 10);
        due("trace(-1)", x.trace(-1), NONE);
        due("trace(16)", x.trace(16), NONE);
        due("trace(min)", x.trace(LOW), NONE);
        x.over(9);
        x.value(6, 8);
        x.spoil(6);
        ask(x, 6, 0, 8 + 6 + 9, 11, 10, 21, 20);
    }

    static void counts() {
        promise = 40;
        StampSheets x = open(NINE);
        x.row(3, 0, 0);
        x.row(5, 0, 1);
        x.serve(1, 56);
        x.spoil(8);
        x.feed(65);
        int[] want = {2, 9, 3, 5, 2, 6, 2, 1};
        for (int what = 0; what < 8; what++) {
            due("count(" + what + ")", x.count(what), want[what]);
        }
        due("count(8)", x.count(8), BAD);
        due("count(-1)", x.count(-1), BAD);
    }

    static void statuses() {
        promise = 41;
        StampSheets x = open("w1,1,0;o0;");
        x.row(0, 0, -1);
        due("SIZE", x.status(), 4);
        due("and again", x.status(), 4);
        x.row(9, 0, 1);
        x.set(-1, 0, 0);
        x.copy(0, 0, 9, 0, 0);
        x.drop(8);
        x.as(0, 9);
        x.who(0, 0, 0, 0, 0, 0, 0);
        x.fits(5, 0, 0, 0, 0, 1);
        due("BAD ones aside", x.status(), 4);
        x.count(0);
        x.spoil(0);
        x.ask(0, 0);
        x.undo();
        due("others aside", x.status(), 4);
        x.as(0, 1);
        due("0 by as()", x.status(), 0);
        x.as(0, 4);
        due("KIND by as()", x.status(), 3);
        x.row(0, 0, 1);
        due("0 by row()", x.status(), 0);
        x.set(0, 1, 0);
        due("PLACE by set()", x.status(), 2);
        x.set(0, 0, 0);
        due("0 by set()", x.status(), 0);
        x.copy(0, 0, 1, 0, 0);
        due("NULL by copy()", x.status(), 1);
        x.copy(0, 0, 0, 0, 0);
        due("0 by copy()", x.status(), 0);
        x.drop(1);
        due("NULL by drop()", x.status(), 1);
        x.who(0, 0, 0, 0, 0, 0, 1);
        due("0 by who()", x.status(), 0);
        x.fits(0, 1, 0, 0, 0, 1);
        due("NULL by fits()", x.status(), 1);
        x.fits(0, 0, 0, 0, 0, 1);
        due("0 by fits()", x.status(), 0);
        x.drop(2);
        x.drop(0);
        due("0 by drop()", x.status(), 0);
    }

    /** What is refused changes nothing, whatever the call. */
    static void refusals() {
        promise = 0;
        StampSheets x = open(NINE);
        x.serve(1, 56);
        x.spoil(8);
        x.ask(4, 1);
        x.row(0, 0, 2);
        List<Long> before = seen(x);
        x.row(0, 0, -1);
        x.row(0, 0, 41);
        x.drop(3);
        x.feed(256);
        x.serve(0, 3);
        x.serve(0, 8);
        x.serve(1, 1);
        x.bringBack(0);
        x.bringBack(7);
        x.spoil(8);
        x.spoil(3);
        x.spoil(77);
        x.value(0, 10);
        x.value(77, 1);
        x.over(10);
        x.image(2);
        x.restore(1);
        x.restore(-1);
        x.ask(9, 0);
        x.ask(0, 2);
        x.as(0, 4);
        same("what is refused", x, before);
    }

    public static void main(String[] args) {
        newObject();
        rows();
        sets();
        copies();
        drops();
        feeds();
        sheets();
        faults();
        undoes();
        serves();
        backs();
        spoils();
        values();
        overs();
        cells();
        customers();
        stands();
        pieceCalls();
        partsCalls();
        piecesCalls();
        sumsCalls();
        bests();
        waysCalls();
        thrifts();
        servings();
        couplesCalls();
        partings();
        wayCalls();
        lones();
        whos();
        fitsCalls();
        wrongs();
        draws();
        images();
        kinds();
        asks();
        counts();
        statuses();
        refusals();
        System.out.println(wrong == 0 ? checks + " answers are as due" : wrong + " answers are not as due");
        if (wrong != 0) {
            System.exit(1);
        }
    }
}
