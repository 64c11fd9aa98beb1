import java.util.List;

/** Edges of promises 6 to 8: the tape, texts and their faults. */
final class TextEdges extends Edges {
    /** As long as a text of a sheet can be: 85 bytes. */
    static final String LONGEST = "w02,05,09;o00;u09;d01;a02;e03;o04;u05;d06;a07;e08;n00,99;n01,98;n02,97;n03,96;n99,99;";

    static void run() {
        tape();
        bytesThatFeedRefuses();
        tapeIsEmptyThen();
        bytesAtEachSpot();
        figures();
        forms();
        overs();
        stampValues();
        sorts();
        justAsMany();
        leastAndMost();
        fiveCustomers();
        firstToken();
        leastFault();
        endOfText();
        allStays();
        inPlaceOfTheOneBefore();
        anotherForm();
        latestFault();
    }

    private static void fault(String text, int place, int number) {
        StampSheets x = new StampSheets();
        due("sheet() of '" + text + "'", read(x, text), -1000100 - place);
        due("fault() of '" + text + "'", x.fault(), number);
    }

    private static void fine(String text, int stamps) {
        StampSheets x = new StampSheets();
        due("sheet() of '" + text + "'", read(x, text), stamps);
        due("fault() of '" + text + "'", x.fault(), 0);
    }

    private static String times(String text, int n) {
        return text.repeat(n);
    }

    private static void tape() {
        says("THE TAPE has at most 120 bytes, that come one by one");
        StampSheets x = new StampSheets();
        due("count(7)", x.count(7), 0);
        for (int i = 1; i <= 120; i++) {
            due("feed()", x.feed('0' + i % 10), i);
        }
        says("A byte (0 to 255) comes behind the tape: how many it has. BAD; FULL.");
        due("feed() of one more", x.feed('w'), FULL);
        due("feed() of one more", x.feed(0), FULL);
        due("BAD ahead of FULL", x.feed(256), BAD);
        due("BAD ahead of FULL", x.feed(-1), BAD);
        due("count(7)", x.count(7), 120);
        due("a run of 120 figures, at its first", x.sheet(), -1000100);
        due("feed() behind it", x.feed('w'), 1);
    }

    private static void bytesThatFeedRefuses() {
        says("A byte (0 to 255) comes behind the tape: how many it has. BAD; FULL.");
        StampSheets x = new StampSheets();
        for (int letter : FAR) {
            due("feed(" + letter + ")", x.feed(letter), BAD);
        }
        due("feed(256)", x.feed(256), BAD);
        // Its lowest bits are those of 'w'.
        due("feed(375)", x.feed(256 + 'w'), BAD);
        due("count(7)", x.count(7), 0);
        due("feed(0)", x.feed(0), 1);
        due("feed(255)", x.feed(255), 2);
    }

    private static void tapeIsEmptyThen() {
        says("The tape, empty then, is read: how many STAMPS there are.");
        StampSheets x = new StampSheets();
        due("the longest text", LONGEST.length(), 85);
        due("the longest text", read(x, LONGEST), 10);
        due("count(7)", x.count(7), 0);
        due("the shortest text", read(x, "w1,1,0;o0;"), 1);
        due("count(7)", x.count(7), 0);
        due("nothing", x.sheet(), -1000100);
        due("a fault", read(x, "w1,1,0;o0;x"), -1000110);
        due("count(7)", x.count(7), 0);
        due("the sheet before stays", x.count(1), 1);
    }

    /** All 256 bytes where a token of each sort is due. */
    private static void bytesAtEachSpot() {
        says("TOKENS: letters a to z (each by itself), NUMBERS (figures, 2 at most), SIGNS , and ; nothing else.");
        for (int b = 0; b < 256; b++) {
            char sign = (char) b;
            boolean figure = b >= '0' && b <= '9';
            boolean sort = "ouade".indexOf(sign) >= 0;
            fault("" + sign, b == 'w' ? 1 : 0, 1);
            fault("w" + sign, b >= '1' && b <= '6' ? 2 : 1, figure && (b < '1' || b > '6') ? 2 : 1);
            fault("w1" + sign, b == ',' ? 3 : figure ? 1 : 2, figure ? 2 : 1);
            fault("w1,1,0" + sign, b == ';' || figure ? 7 : 6, 1);
            fault("w1,1,0;" + sign, sort ? 8 : 7, 1);
            fault("w1,1,0;o0;" + sign, b == 'n' ? 11 : 10, sort ? 3 : 1);
            fault("w1,1,0;o0;n0,0;" + sign, b == 'n' ? 16 : 15, 1);
            fault("w1,1,0;o0;n0" + sign, b == ',' || figure ? 13 : 12, 1);
            if (b != ';') {
                fault("w1,1,0;o0;n0,1" + sign, figure ? 15 : 14, 1);
            }
        }
    }

    private static void figures() {
        says("a run of three figures, at its first");
        fine("w01,01,00;o00;n00,00;", 1);
        fault("w001,1,0;", 1, 1);
        fault("w1,001,0;", 3, 1);
        fault("w1,1,000;", 5, 1);
        fault("w1,1,0;o000;", 8, 1);
        fault("w1,1,0;o0;n000,9;", 11, 1);
        fault("w1,1,0;o0;n0,099;", 13, 1);
        fault("w1,1,0;o0;n100,999;", 11, 1);
        fault("w1,1,0;o1234;", 8, 1);
        fault("w" + times("1", 119), 1, 1);
        // The first ten figures of this one are a number that an int has no room for.
        fault("w1,1,0;o" + times("4294967296", 3), 8, 1);
        fault("123", 0, 1);
    }

    private static void forms() {
        says("law: w WIDE , HIGH , OVER ; (1 to 6 each, WIDE times HIGH 10 at most: else it is HIGH that is not as told; 0 to 9).");
        for (int wide = 1; wide <= 6; wide++) {
            for (int high = 1; high <= 6; high++) {
                String text = "w" + wide + "," + high + ",0;";
                if (wide * high <= 10) {
                    fine(text + times("o0;", wide * high), wide * high);
                } else {
                    fault(text, 3, 2);
                }
            }
        }
        for (int n = 0; n < 100; n++) {
            String two = (n < 10 ? "0" : "") + n;
            if (n < 1 || n > 6) {
                fault("w" + n + ",1,0;", 1, 2);
                fault("w" + two + ",1,0;", 1, 2);
                fault("w1," + n + ",0;", 3, 2);
                fault("w1," + two + ",0;", 3, 2);
            } else {
                fine("w" + two + ",1,0;" + times("o0;", n), n);
                fine("w1," + two + ",0;" + times("o0;", n), n);
            }
        }
    }

    private static void overs() {
        says("law: w WIDE , HIGH , OVER ; (1 to 6 each, WIDE times HIGH 10 at most: else it is HIGH that is not as told; 0 to 9).");
        for (int n = 0; n < 100; n++) {
            if (n > 9) {
                fault("w1,1," + n + ";o0;", 5, 2);
            } else {
                due("OVER " + n, open("w1,1," + n + ";o0;").stand(3), n);
                due("OVER 0" + n, open("w1,1,0" + n + ";o0;").stand(3), n);
            }
        }
    }

    private static void stampValues() {
        says("(SORT: o an ordinary one, u one stamped over, d a damaged one, a by air, e by air and express; 0 to 9;");
        for (int n = 0; n < 100; n++) {
            if (n > 9) {
                fault("w1,1,0;o" + n + ";", 8, 2);
            } else {
                due("VALUE " + n, open("w1,1,0;o" + n + ";").cell(0, 0), n);
                due("VALUE 0" + n, open("w1,1,0;o0" + n + ";").cell(0, 0), n);
            }
        }
    }

    private static void sorts() {
        says("(SORT: o an ordinary one, u one stamped over, d a damaged one, a by air, e by air and express; 0 to 9;");
        for (char letter = 'a'; letter <= 'z'; letter++) {
            int kind = " oudae".indexOf(letter);
            if (kind > 0) {
                due("kind of " + letter, open("w1,1,0;" + letter + "0;").kind(0), kind);
            } else {
                fault("w1,1,0;" + letter + "0;", 7, 1);
            }
        }
        says("CELLS 0, 1, .., row by row, from left to right");
        StampSheets x = open("w3,2,0;o0;u1;d2;a3;e4;o5;");
        for (int c = 0; c < 6; c++) {
            due("cell(" + c + ", 0)", x.cell(c, 0), c);
        }
        due("right of 0, below 0", x.cell(0, 2), 2 + 8);
    }

    private static void justAsMany() {
        says("just as many as WIDE times HIGH");
        for (int stamps = 0; stamps < 10; stamps++) {
            String text = "w5,2,0;" + times("o0;", stamps);
            fault(text, text.length(), 1);
            fault(text + "n0,0;", text.length(), 1);
        }
        fine("w5,2,0;" + times("o0;", 10), 10);
        says("3 a stamp, a customer more than there is room for (its letter).");
        fault("w5,2,0;" + times("o0;", 11), 37, 3);
        for (char sort : "oudae".toCharArray()) {
            fault("w1,1,0;o0;" + sort + "0;", 10, 3);
            fault("w1,1,0;o0;" + sort, 10, 3);
            fault("w1,1,0;o0;" + sort + "99;", 10, 3);
        }
    }

    private static void leastAndMost() {
        says("customer: n LEAST , MOST ; (0 to 99; LEAST to 99; CUSTOMERS 0 .. 4, 5 at most).");
        for (int least : new int[] {0, 1, 9, 10, 50, 98, 99}) {
            for (int most = 0; most < 100; most++) {
                String text = "w1,1,0;o0;n" + least + "," + most + ";";
                if (most < least) {
                    fault(text, least < 10 ? 13 : 14, 2);
                } else {
                    StampSheets x = open(text);
                    due("LEAST", x.customer(0, 0), least);
                    due("MOST", x.customer(0, 1), most);
                }
            }
        }
        fine("w1,1,0;o0;n99,99;", 1);
        fault("w1,1,0;o0;n99,100;", 14, 1);
    }

    private static void fiveCustomers() {
        says("CUSTOMERS 0 .. 4, 5 at most");
        for (int n = 0; n <= 5; n++) {
            StampSheets x = open("w1,1,0;o0;" + times("n0,7;", n));
            due("count(2)", x.count(2), n);
            due("there is no such", x.customer(n, 0), BAD);
            due("the last", n == 0 ? 7 : x.customer(n - 1, 1), 7);
        }
        says("3 a stamp, a customer more than there is room for (its letter).");
        fault("w1,1,0;o0;" + times("n0,0;", 6), 35, 3);
        fault("w1,1,0;o0;" + times("n0,0;", 5) + "n", 35, 3);
        fault("w1,1,0;o0;" + times("n0,0;", 5) + "n,", 35, 3);
        fault(LONGEST + "n0,0;", 85, 3);
    }

    private static void firstToken() {
        says("FAULTS, the first TOKEN that has one (its first byte)");
        fault("w0,0,99;x", 1, 2);
        fault("w1,0,99;x", 3, 2);
        fault("w1,1,99;x", 5, 2);
        fault("w6,6,99;", 3, 2);
        fault("w1,1,0;o10;o0;", 8, 2);
        fault("w1,1,0;o0;o10;", 10, 3);
        fault("w1,1,0;o0;n9,8;n", 13, 2);
        fault("w01,07,0;", 4, 2);
        fault("w01,01,0;x", 9, 1);
        fault("w1,1,0;o0;n10,05;", 14, 2);
    }

    private static void leastFault() {
        says("of one TOKEN the least: 1 it cannot stand there, or is none");
        // A number that cannot stand there, nor is as told for any place.
        fault("99,1,0;", 0, 1);
        fault("w1;99", 2, 1);
        fault("w1,1,0;99;", 7, 1);
        // A stamp, for which there is no room, cannot stand behind a customer, either.
        fault("w1,1,0;o0;n0,0;o0;", 15, 1);
        fault("w1,1,0;o0;" + times("n0,0;", 5) + "o0;", 35, 1);
        // A customer cannot stand within the stamps.
        fault("w2,1,0;o0;n0,0;o0;", 10, 1);
        // A law cannot stand behind another.
        fault("w1,1,0;w1,1,0;", 7, 1);
        fault("w1,1,0;o0;w1,1,0;", 10, 1);
        fault("ww", 1, 1);
        fault("w1,,0;", 3, 1);
        fault("w1,1,;", 5, 1);
        fault("w,1,0;", 1, 1);
        fault("w1,1,0,", 6, 1);
        fault("w1;1,0;", 2, 1);
        fault("w1,1;0;", 4, 1);
        fault("w1,1,0;o;", 8, 1);
        fault("w1,1,0;oo0;", 8, 1);
        fault("w1,1,0;o0,", 9, 1);
        fault("w1,1,0;o0;;", 10, 1);
        fault("w1,1,0;o0;n,9;", 11, 1);
        fault("w1,1,0;o0;n9;", 12, 1);
        fault("w1,1,0;o0;n9,;", 13, 1);
        fault("w1,1,0;o0;n9,9,", 14, 1);
        says("2 a NUMBER that is not as told");
        fault("w7,1,0;", 1, 2);
        fault("w1,7,0;", 3, 2);
        fault("w1,1,10;", 5, 2);
        fault("w1,1,0;o10;", 8, 2);
        fault("w1,1,0;o0;n1,0;", 13, 2);
    }

    private static void endOfText() {
        says("the end: how many bytes there are");
        String text = "w2,1,0;o0;e1;n0,9;n8,99;";
        for (int n = 0; n < text.length(); n++) {
            boolean whole = n == 13 || n == 18;
            if (whole) {
                fine(text.substring(0, n), 2);
            } else {
                fault(text.substring(0, n), n, 1);
            }
        }
        fine(text, 2);
    }

    private static void allStays() {
        says("-1000100 less the place of a FAULT: all stays.");
        // Each text goes wrong later than the one before, when more of it was read.
        String[] texts = {"", "w9", "w1,1,9;", "w1,1,9;a9;x", "w3,3,9;a9;a9;a9;", "w1,1,9;a9;n1,1;n5,4;"};
        for (String text : texts) {
            StampSheets x = open("w2,1,3;o4;u5;n0,9;n8,9;");
            x.value(0, 7);
            x.serve(0, 1);
            x.ask(0, 0);
            x.image(1);
            x.over(2);
            List<Integer> before = seen(x);
            due("sheet() of '" + text + "' is a fault", read(x, text) <= -1000100 ? 1 : 0, 1);
            List<Integer> after = seen(x);
            after.set(after.size() - 1, 0);
            due("what is seen behind '" + text + "'", after, before);
            due("piece(2, 0)", x.piece(2, 0), 7);
            due("best(1, 0)", x.best(1, 0), NONE);
            due("undo()", x.undo(), 2);
            due("undo()", x.undo(), 1);
            due("piece(3, 0)", x.piece(3, 0), 15);
            due("restore(1)", x.restore(1), 1);
            due("stand(1)", x.stand(1), 1);
        }
    }

    private static void inPlaceOfTheOneBefore() {
        says("A SHEET that is read stands in place of the one before (none at first): all STAMPS are on it, nobody is SERVED, nothing was TORN; no ACT can be undone.");
        StampSheets x = new StampSheets();
        due("none at first", x.stand(0), STATE);
        read(x, NINE);
        x.serve(0, 1);
        x.serve(1, 56);
        x.spoil(8);
        x.over(9);
        x.value(1, 9);
        // Days that are foretold leave nothing for the next sheet, either.
        x.drawn(60, 5, 0);
        due("sheet()", read(x, "w2,2,3;u4;a5;e1;o9;n7,8;n0,99;"), 4);
        int[] counts = {0, 4, 2, 4, 0, 0, 0, 0};
        for (int what = 0; what < 8; what++) {
            due("count(" + what + ")", x.count(what), counts[what]);
        }
        int[] stands = {15, 0, 0, 3, 0};
        for (int what = 0; what < 5; what++) {
            due("stand(" + what + ")", x.stand(what), stands[what]);
        }
        int[][] cells = {{4, 0, 6, NONE}, {5, 0, 9, NONE}, {1, 0, 9, NONE}, {9, 0, 6, NONE}};
        for (int c = 0; c < 4; c++) {
            for (int what = 0; what < 4; what++) {
                due("cell(" + c + ", " + what + ")", x.cell(c, what), cells[c][what]);
            }
        }
        due("customer(0, 2)", x.customer(0, 2), 0);
        due("customer(1, 2)", x.customer(1, 2), 0);
        due("customer(2, 0)", x.customer(2, 0), BAD);
        due("cell(4, 0)", x.cell(4, 0), BAD);
        due("undo()", x.undo(), STATE);
        // Cells 1 and 2, both by air, are next to one another no more than 0 and 3.
        due("piece(6, 0)", x.piece(6, 0), BAD);
        due("piece(7, 0)", x.piece(7, 0), 7 + 0 + 5);
        due("piece(9, 0)", x.piece(9, 0), BAD);
        due("serve(1, 15)", x.serve(1, 15), 0);
        read(x, "w1,2,0;o1;o2;");
        due("a smaller one", x.count(1), 2);
        due("a smaller one", x.pieces(1, 0), 3);
        due("no customers", x.count(2), 0);
        due("its kinds", x.piece(3, 0), 3);
    }

    /** What was found for one form must not be taken for another. */
    private static void anotherForm() {
        says("A SHEET that is read stands in place of the one before (none at first)");
        StampSheets x = open("w6,1,0;o1;o2;o2;o1;o1;o1;n4,4;n0,99;");
        due("1 and 2 hang together", x.serving(0), 6);
        due("pieces", x.pieces(1, 0), 21);
        due("thrift", x.thrift(0, 0), 6);
        due("sheet()", read(x, "w2,3,0;o1;o2;o2;o0;o0;o9;n4,4;n0,99;"), 6);
        due("1 and 2 do not any more", x.piece(6, 0), BAD);
        due("1, 3 and 2 do", x.serving(0), 14);
        due("thrift", x.thrift(0, 0), 14);
        due("pieces", x.pieces(1, 0), 40);
        due("sheet()", read(x, "w2,1,0;o4;o4;n4,4;n8,8;"), 2);
        due("pieces", x.pieces(1, 0), 3);
        due("ways", x.ways(1), 1);
        due("serving", x.serving(-2), 1);
        due("couples", x.couples(), 1);
        due("parting", x.parting(0, 1, 1), 1);
        due("sums", x.sums(2), 8);
    }

    private static void latestFault() {
        says("The number of the latest FAULT; 0 before one.");
        StampSheets x = new StampSheets();
        due("at first", x.fault(), 0);
        read(x, "w1,1,0;o0;");
        due("before one", x.fault(), 0);
        read(x, "w0");
        due("not as told", x.fault(), 2);
        read(x, "w1,1,0;o0;o");
        due("no room", x.fault(), 3);
        read(x, "w1,1,0;o0;");
        due("it stays", x.fault(), 3);
        x.sheet();
        due("nothing is none", x.fault(), 1);
    }
}
