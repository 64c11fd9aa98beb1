import java.util.List;

/** Edges of promises 34 to 41: images, kinds, asks, counts and the status. */
final class AskEdges extends Edges {
    private static final String[] IS = {"", "01", "012", "013", "04", "045"};

    static void run() {
        imageOfNone();
        imagesKept();
        restored();
        restoredForm();
        kindAsTold();
        takenAs();
        sizes();
        marks();
        askedAnew();
        askRefused();
        traceEnds();
        counts();
        statusOfEach();
        statusStays();
    }

    private static void imageOfNone() {
        says("An IMAGE (0, 1) is kept of the SHEET: 1. BAD; STATE: no SHEET.");
        StampSheets x = new StampSheets();
        due("no sheet", x.image(0), STATE);
        due("no sheet", x.image(1), STATE);
        due("BAD ahead of STATE", x.image(2), BAD);
        for (int far : FAR) {
            due("image(" + far + ")", x.image(far), BAD);
        }
        says("STATE: none was kept.");
        due("none was kept", x.restore(0), STATE);
        due("none was kept", x.restore(1), STATE);
        due("BAD ahead of STATE", x.restore(2), BAD);
        for (int far : FAR) {
            due("restore(" + far + ")", x.restore(far), BAD);
        }
        read(x, NINE);
        due("none was kept yet", x.restore(0), STATE);
        due("image(1)", x.image(1), 1);
        due("of 0 none", x.restore(0), STATE);
        due("image(2)", x.image(2), BAD);
        due("restore(2)", x.restore(2), BAD);
        due("restore(1)", x.restore(1), 1);
    }

    private static void imagesKept() {
        says("An IMAGE (0, 1) is kept of the SHEET: 1.");
        StampSheets x = open(NINE);
        x.over(1);
        due("image(0)", x.image(0), 1);
        x.over(2);
        due("image(1)", x.image(1), 1);
        x.over(3);
        due("ACTS are as they were", x.count(6), 3);
        due("undo()", x.undo(), 2);
        x.restore(0);
        due("of 0", x.stand(3), 1);
        x.restore(1);
        due("of 1", x.stand(3), 2);
        x.over(7);
        due("image(1) anew", x.image(1), 1);
        x.over(8);
        x.restore(1);
        due("the later one", x.stand(3), 7);
        x.restore(0);
        due("the other one stays", x.stand(3), 1);
        x.over(9);
        x.restore(0);
        due("as often as wanted", x.stand(3), 1);
    }

    private static void restored() {
        says("The SHEET is as an IMAGE kept it (no ACT can be undone then): 1.");
        StampSheets x = open(NINE);
        x.serve(1, 56);
        x.spoil(8);
        x.value(0, 9);
        x.over(0);
        List<Integer> kept = seen(x);
        x.image(0);
        x.bringBack(1);
        x.serve(0, 2);
        spoil(x, 4, 5);
        x.value(0, 1);
        x.value(4, 7);
        x.over(6);
        due("restore(0)", x.restore(0), 1);
        kept.set(6, 0);
        due("what is seen", seen(x), kept);
        due("undo()", x.undo(), STATE);
        due("it is brought back", x.bringBack(1), 13);
        due("undo() of what comes then", x.undo(), 0);
        due("no more", x.undo(), STATE);
        due("rows, tape and images are not of it", x.restore(0), 1);
    }

    private static void restoredForm() {
        says("The SHEET is as an IMAGE kept it (no ACT can be undone then): 1.");
        StampSheets x = open("w6,1,0;" + "o1;".repeat(6) + "n2,2;");
        x.image(0);
        read(x, "w2,3,5;u1;u1;u1;u1;u1;u1;");
        due("two wide", x.piece(5, 0), 12);
        x.image(1);
        x.row(3, 0, 5);
        x.feed('w');
        due("restore(0)", x.restore(0), 1);
        due("six wide", x.piece(5, 0), BAD);
        due("six wide", x.piece(3, 0), 2);
        due("six wide", x.pieces(6, 2), 1);
        due("six wide", x.pieces(1, 0), 21);
        due("customers", x.serving(-1), 1);
        due("kinds", x.kind(0), 1);
        due("rows stay", x.count(0), 1);
        due("the tape stays", x.count(7), 1);
        due("restore(1)", x.restore(1), 1);
        due("two wide", x.piece(5, 0), 12);
        due("two wide", x.pieces(3, 2), 2);
        due("no customers", x.count(2), 0);
        due("kinds", x.kind(0), 2);
        due("OVER", x.stand(3), 5);
    }

    private static void kindAsTold() {
        says("The KIND of a STAMP, as told (1 to 5). BAD.");
        StampSheets x = open("w5,2,0;o0;u0;d0;a0;e0;e0;a0;d0;u0;o0;n0,0;");
        int[] kinds = {1, 2, 3, 4, 5, 5, 4, 3, 2, 1};
        x.serve(0, 1);
        x.spoil(1);
        x.value(2, 9);
        for (int c = 0; c < 10; c++) {
            due("kind(" + c + ")", x.kind(c), kinds[c]);
        }
        due("kind(10)", x.kind(10), BAD);
        for (int far : FAR) {
            due("kind(" + far + ")", x.kind(far), BAD);
        }
        due("no sheet", new StampSheets().kind(0), BAD);
        due("kind(9) of 9", open(NINE).kind(9), BAD);
    }

    private static void takenAs() {
        says("KINDS of STAMPS: 0 STAMP; 1 ORDINARY, a STAMP; 2 OVERPRINT, an ORDINARY; 3 DAMAGED, an ORDINARY; 4 AIR, a STAMP; 5 EXPRESS, an AIR.");
        says("A STAMP is taken as one of a KIND (0 .. 5): its number. BAD; KIND: it is no such one.");
        StampSheets x = open("w5,2,0;o0;u0;d0;a0;e0;o0;u0;d0;a0;e0;");
        for (int c = 0; c < 10; c++) {
            for (int kind = 0; kind < 6; kind++) {
                boolean is = IS[c % 5 + 1].indexOf('0' + kind) >= 0;
                due("as(" + c + ", " + kind + ")", x.as(c, kind), is ? c : KIND);
                due("status()", x.status(), is ? 0 : 3);
            }
        }
        x.as(0, 5);
        due("no such KIND", x.as(0, 6), BAD);
        due("no such STAMP", x.as(10, 0), BAD);
        due("BAD ahead of KIND", x.as(10, 5), BAD);
        for (int far : FAR) {
            due("as(" + far + ", 0)", x.as(far, 0), BAD);
            due("as(0, " + far + ")", x.as(0, far), BAD);
        }
        due("status() stays", x.status(), 3);
        spoil(x, 9);
        due("a spoilt one, too", x.as(9, 4), 9);
        due("no sheet", new StampSheets().as(0, 0), BAD);
    }

    private static void ask(StampSheets x, int one, int what, int answer, int... trace) {
        due("ask(" + one + ", " + what + ")", x.ask(one, what), answer);
        for (int i = 0; i < trace.length; i++) {
            due("trace(" + i + ") of ask(" + one + ", " + what + ")", x.trace(i), trace[i]);
        }
        due("trace(" + trace.length + ") of ask(" + one + ", " + what + ")", x.trace(trace.length), NONE);
    }

    private static void sizes() {
        says("0 SIZE: 10 lent to all STAMPS: VALUE. 11 of ORDINARY ones: what 10 gives, and MARK. 12 of OVERPRINTS: 0 less what 11 gives. 13 of those by AIR: what 10 gives, less 100. 14 of EXPRESS ones: what 13 gives, twice.");
        StampSheets x = open("w5,1,9;o9;u9;d9;a9;e9;");
        ask(x, 0, 0, 9 + 0 + 9, 11, 10, 21, 20);
        ask(x, 1, 0, -(9 + 2 * (1 + 9)), 12, 11, 10, 24, 21, 20);
        ask(x, 2, 0, 9 + 2 + 9 - 1000, 11, 10, 22, 21, 20);
        ask(x, 3, 0, 9 - 100, 13, 10);
        ask(x, 4, 0, 2 * (9 - 100), 14, 13, 10);
        StampSheets y = open("w5,1,0;o0;u0;d0;a0;e0;");
        ask(y, 0, 0, 0, 11, 10, 21, 20);
        ask(y, 1, 0, -2, 12, 11, 10, 24, 21, 20);
        ask(y, 2, 0, 2 - 1000, 11, 10, 22, 21, 20);
        ask(y, 3, 0, -100, 13, 10);
        ask(y, 4, 0, -200, 14, 13, 10);
    }

    private static void marks() {
        says("1 MARK: 20 lent to all STAMPS: the CELL. 21 of ORDINARY ones: what 20 gives, and OVER. 22 of DAMAGED ones: what 21 gives, less 1000. 23 of those by AIR: what 20 gives, less SIZE. 24 of OVERPRINTS: what 21 gives, twice.");
        StampSheets x = open("w5,1,9;o9;u9;d9;a9;e9;");
        ask(x, 0, 1, 0 + 9, 21, 20);
        ask(x, 1, 1, 2 * (1 + 9), 24, 21, 20);
        ask(x, 2, 1, 2 + 9 - 1000, 22, 21, 20);
        ask(x, 3, 1, 3 - (9 - 100), 23, 20, 13, 10);
        ask(x, 4, 1, 4 - 2 * (9 - 100), 23, 20, 14, 13, 10);
        says("(Of an ask the BODY told for the KIND begins, else that of the nearest KIND that it is, too, else the one that is lent; SIZE, MARK within others are asked of the same STAMP anew.)");
        StampSheets y = open("w5,2,0;o0;o0;o0;o0;o0;e0;d0;u0;a0;o0;");
        ask(y, 5, 1, 5 + 200, 23, 20, 14, 13, 10);
        ask(y, 6, 0, 6 - 1000, 11, 10, 22, 21, 20);
        ask(y, 7, 0, -14, 12, 11, 10, 24, 21, 20);
        ask(y, 8, 1, 8 + 100, 23, 20, 13, 10);
        ask(y, 9, 1, 9, 21, 20);
    }

    private static void askedAnew() {
        says("ASKS of STAMPS (by CELLS), by BODIES, each of which leaves its number in THE TRACE as it begins (the first 16)");
        StampSheets x = open(NINE);
        x.value(0, 9);
        x.over(0);
        x.serve(2, 64);
        x.spoil(8);
        ask(x, 0, 0, 9, 11, 10, 21, 20);
        ask(x, 6, 1, 6, 21, 20);
        ask(x, 8, 0, -(7 + 2 * 8), 12, 11, 10, 24, 21, 20);
        due("status() is of others", x.status(), 0);
        says("THE TRACE is empty ahead of it.");
        x.ask(8, 0);
        ask(x, 3, 0, 3 - 100, 13, 10);
        for (int i = 2; i < 20; i++) {
            due("trace(" + i + ")", x.trace(i), NONE);
        }
    }

    private static void askRefused() {
        says("An ASK (0, 1) of a STAMP. BAD.");
        StampSheets x = open(NINE);
        x.ask(8, 0);
        due("what of 2", x.ask(0, 2), BAD);
        due("no such STAMP", x.ask(9, 0), BAD);
        for (int far : FAR) {
            due("ask(" + far + ", 0)", x.ask(far, 0), BAD);
            due("ask(0, " + far + ")", x.ask(0, far), BAD);
        }
        due("what is refused leaves THE TRACE", x.trace(0), 12);
        due("what is refused leaves THE TRACE", x.trace(5), 20);
        due("no sheet", new StampSheets().ask(0, 0), BAD);
    }

    private static void traceEnds() {
        says("Number i of THE TRACE; NONE.");
        StampSheets x = new StampSheets();
        for (int i = -1; i <= 17; i++) {
            due("at first, trace(" + i + ")", x.trace(i), NONE);
        }
        read(x, NINE);
        x.ask(8, 0);
        due("trace(0)", x.trace(0), 12);
        due("trace(5)", x.trace(5), 20);
        for (int i : new int[] {6, 15, 16, 17}) {
            due("trace(" + i + ")", x.trace(i), NONE);
        }
        for (int far : FAR) {
            due("trace(" + far + ")", x.trace(far), NONE);
        }
    }

    private static void counts() {
        says("How many: 0 ROWS, 1 CELLS, 2 CUSTOMERS, 3 how many STAMPS are on THE SHEET, 4 who is SERVED (bits), 5 TORN, 6 ACTS that can be undone, 7 bytes on the tape. BAD.");
        StampSheets x = new StampSheets();
        for (int what = 0; what < 8; what++) {
            due("at first, count(" + what + ")", x.count(what), 0);
        }
        due("at first, count(8)", x.count(8), BAD);
        read(x, "w5,2,0;" + "o1;".repeat(10) + "n1,1;".repeat(5));
        for (int row = 0; row < 8; row++) {
            x.row(row, row % 3, row);
        }
        for (int c = 0; c < 5; c++) {
            x.serve(c, 1 << c);
        }
        spoil(x, 5, 6, 7, 8);
        x.feed(0);
        int[] wants = {8, 10, 5, 1, 31, 2 * 4 + 1, 9, 1};
        for (int what = 0; what < 8; what++) {
            due("count(" + what + ")", x.count(what), wants[what]);
        }
        due("count(8)", x.count(8), BAD);
        for (int far : FAR) {
            due("count(" + far + ")", x.count(far), BAD);
        }
    }

    private static void statusOfEach() {
        says("Of the latest call with a ROW, or as(), that was not BAD, STATE, FULL: the number of its FINDING; 0: it had none, or there was none.");
        StampSheets x = new StampSheets();
        due("there was none", x.status(), 0);
        read(x, "w1,1,0;o0;");
        x.row(0, 0, -1);
        due("row(): SIZE", x.status(), 4);
        x.row(0, 0, 1);
        due("row(): 0", x.status(), 0);
        x.set(1, 0, 0);
        due("set(): NULL", x.status(), 1);
        x.set(0, 1, 0);
        due("set(): PLACE", x.status(), 2);
        x.set(0, 0, 0);
        due("set(): 0", x.status(), 0);
        x.row(2, 2, 1);
        x.copy(0, 0, 2, 0, 1);
        due("copy(): STORE", x.status(), 5);
        x.copy(0, 0, 0, 0, 1);
        due("copy(): 0", x.status(), 0);
        x.drop(1);
        due("drop(): NULL", x.status(), 1);
        x.drop(2);
        due("drop(): 0", x.status(), 0);
        x.as(0, 2);
        due("as(): KIND", x.status(), 3);
        x.as(0, 1);
        due("as(): 0", x.status(), 0);
        for (int which = 0; which < 2; which++) {
            x.who(0, which, 1, 0, 0, 0, 1);
            due("who(): NULL", x.status(), 1);
            x.who(0, which, 0, 0, 0, 0, 1);
            due("who(): 0", x.status(), 0);
        }
        for (int which = 0; which < 3; which++) {
            x.fits(which, 0, 1, 0, 0, 1);
            due("fits(): PLACE", x.status(), 2);
            x.fits(which, 0, 0, 0, 0, 1);
            due("fits(" + which + ", ..): 0", x.status(), 0);
        }
    }

    private static void statusStays() {
        says("Of the latest call with a ROW, or as(), that was not BAD, STATE, FULL");
        StampSheets x = new StampSheets();
        x.drop(0);
        x.fits(0, 0, 0, 0, 0, 1);
        due("STATE of fits()", x.status(), 1);
        x.row(0, 0, -1);
        x.row(8, 0, 0);
        x.set(8, 0, 0);
        x.copy(8, 0, 0, 0, 0);
        x.drop(8);
        x.as(0, 0);
        x.who(0, 0, 0, 0, 0, 0, 1);
        due("BAD of all", x.status(), 4);
        read(x, NINE);
        read(x, "x");
        x.fits(9, 0, 0, 0, 0, 1);
        x.serve(0, 1);
        x.bringBack(0);
        x.spoil(1);
        x.value(1, 1);
        x.over(1);
        x.undo();
        x.image(0);
        x.restore(0);
        x.ask(0, 0);
        x.kind(0);
        x.count(0);
        x.status();
        due("calls without a ROW", x.status(), 4);
        for (int i = 0; i < 121; i++) {
            x.feed('0');
        }
        due("FULL", x.feed('0'), FULL);
        due("calls without a ROW", x.status(), 4);
    }
}
