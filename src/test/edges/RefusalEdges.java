import java.util.ArrayList;
import java.util.List;
import java.util.function.ToLongFunction;

/** Edges of what holds for all calls: refusals, their order, and that they change nothing. */
final class RefusalEdges extends Edges {
    private record Call(String told, long want, ToLongFunction<StampSheets> made) {
    }

    static void run() {
        newObject();
        fromZeroOn();
        numbersOfRefusals();
        nothingWithoutASheet();
        stateAheadOfBad();
        changesNothing();
        untilTheLastCall();
    }

    private static void newObject() {
        says("No SHEET.");
        StampSheets x = new StampSheets();
        due("stand(0)", x.stand(0), STATE);
        due("count(1)", x.count(1), 0);
        due("image(0)", x.image(0), STATE);
        due("another object has its own", open(NINE).count(1) + x.count(1), 9);
    }

    private static void fromZeroOn() {
        says("Numbers go from 0 on.");
        StampSheets x = open("w2,1,0;o1;o2;n1,1;n2,2;");
        due("ROW 0, ITEM 0", x.row(0, 0, 1) + x.set(0, 0, 5), 6);
        due("CELLS 0 and 1", x.cell(0, 0) + 10 * x.cell(1, 0), 21);
        due("no CELL 2", x.cell(2, 0), BAD);
        due("CUSTOMERS 0 and 1", x.customer(0, 0) + 10 * x.customer(1, 0), 21);
        due("no CUSTOMER 2", x.customer(2, 0), BAD);
        due("PART 0", x.parts(0), 3);
        due("no PART 1", x.parts(1), NONE);
        says("Sets are bits.");
        due("CELL 0 is bit 0", x.piece(1, 0), 1);
        due("CELL 1 is bit 1", x.piece(2, 0), 2);
        x.serve(1, 2);
        due("CUSTOMER 1 is bit 1", x.stand(1), 2);
        x.serve(0, 1);
        due("both", x.stand(1), 3);
    }

    private static void numbersOfRefusals() {
        says("Refusals are answers, the first of these that fits, but as told: BAD (a number is not as told; there is no such thing), STATE (as told), FULL (as told), then FINDINGS, of several the first in time: -1000010 less 1 NULL (a ROW that is missing), 2 PLACE (no such place of a ROW), 3 KIND (a STAMP that is not that), 4 SIZE (fewer than none), 5 STORE (ROWS of two LANES).");
        due("NONE", StampSheets.NONE, -1000000);
        due("BAD", StampSheets.BAD, -1000001);
        due("STATE", StampSheets.STATE, -1000002);
        due("FULL", StampSheets.FULL, -1000003);
        StampSheets x = open("w1,1,0;o0;");
        x.row(1, 0, 1);
        x.row(2, 1, 1);
        due("NULL", x.drop(0), -1000010 - 1);
        due("PLACE", x.set(1, 1, 0), -1000010 - 2);
        due("KIND", x.as(0, 5), -1000010 - 3);
        due("SIZE", x.row(0, 0, -1), -1000010 - 4);
        due("STORE", x.copy(1, 0, 2, 0, 1), -1000010 - 5);
    }

    private static void nothingWithoutASheet() {
        says("---- what is done (a set that is no PIECE, CELLS that there are not: BAD).");
        StampSheets x = new StampSheets();
        List<Call> calls = List.of(
                new Call("serve(0, 1)", BAD, y -> y.serve(0, 1)),
                new Call("bringBack(0)", BAD, y -> y.bringBack(0)),
                new Call("spoil(0)", BAD, y -> y.spoil(0)),
                new Call("value(0, 0)", BAD, y -> y.value(0, 0)),
                new Call("cell(0, 0)", BAD, y -> y.cell(0, 0)),
                new Call("customer(0, 0)", BAD, y -> y.customer(0, 0)),
                new Call("piece(1, 0)", BAD, y -> y.piece(1, 0)),
                new Call("best(0, 0)", BAD, y -> y.best(0, 0)),
                new Call("ways(0)", BAD, y -> y.ways(0)),
                new Call("thrift(0, 0)", BAD, y -> y.thrift(0, 0)),
                new Call("parting(0, 1, 0)", BAD, y -> y.parting(0, 1, 0)),
                new Call("way(0, 1, 0)", BAD, y -> y.way(0, 1, 0)),
                new Call("wrong(1, 0, 0, 0)", BAD, y -> y.wrong(1, 0, 0, 0)),
                new Call("kind(0)", BAD, y -> y.kind(0)),
                new Call("as(0, 0)", BAD, y -> y.as(0, 0)),
                new Call("ask(0, 0)", BAD, y -> y.ask(0, 0)),
                new Call("undo()", STATE, y -> y.undo()),
                new Call("couples()", STATE, y -> y.couples()),
                new Call("lone()", STATE, y -> y.lone()),
                new Call("image(0)", STATE, y -> y.image(0)),
                new Call("restore(0)", STATE, y -> y.restore(0)));
        for (Call call : calls) {
            due(call.told, call.made.applyAsLong(x), call.want);
        }
    }

    private static void stateAheadOfBad() {
        says("STATE: no SHEET (ahead of BAD)");
        StampSheets x = new StampSheets();
        for (int far : FAR) {
            due("over(" + far + ")", x.over(far), STATE);
            due("stand(" + far + ")", x.stand(far), STATE);
            due("parts(" + far + ")", x.parts(far), STATE);
            due("pieces(" + far + ", 0)", x.pieces(far, 0), STATE);
            due("pieces(1, " + far + ")", x.pieces(1, far), STATE);
            due("sums(" + far + ")", x.sums(far), STATE);
            due("serving(" + far + ")", x.serving(far), STATE);
            due("fits(" + far + ", ..)", x.fits(far, 0, 0, 0, 0, 1), STATE);
            due("drawn(" + far + ", ..)", x.drawn(far, 1, 0), STATE);
            // Not told so of these.
            due("image(" + far + ")", x.image(far), BAD);
            due("restore(" + far + ")", x.restore(far), BAD);
        }
    }

    /** Customer 1 is served, cell 8 is spoilt; the status is 5; rows 0 to 2 are there, the tape has a byte. */
    private static StampSheets standing() {
        StampSheets x = told(NINE, new int[] {0, 1, 2}, new int[] {5, 11, 15});
        x.row(2, 1, 2);
        x.serve(1, 56);
        x.image(0);
        x.spoil(8);
        x.ask(4, 1);
        x.feed('w');
        x.copy(0, 0, 1, 0, 0);
        return x;
    }

    private static void changesNothing() {
        says("What is refused, or found, changes nothing but status().");
        List<Call> calls = new ArrayList<>();
        refusedRows(calls);
        refusedActs(calls);
        refusedQuestions(calls);
        for (Call call : calls) {
            StampSheets x = standing();
            List<Integer> before = seen(x);
            due(call.told, call.made.applyAsLong(x), call.want);
            boolean found = call.want < -1000010;
            due("status() behind " + call.told, x.status(), found ? -1000010 - call.want : 5);
            due("what is seen behind " + call.told, seen(x), before);
            due("rows 0 and 1 behind " + call.told, x.fits(0, 0, 0, 1, 0, 3), 16);
            due("row 0 behind " + call.told, x.set(0, 3, 0), PLACE);
            due("row 1 behind " + call.told, x.set(1, 3, 0), PLACE);
            due("row 2 behind " + call.told, x.drop(2), 2);
            due("the image behind " + call.told, x.restore(0), 1);
            due("the image behind " + call.told, x.stand(0), 511 - 56);
            due("no other image behind " + call.told, x.restore(1), STATE);
        }
    }

    private static void refusedRows(List<Call> calls) {
        calls.add(new Call("row(8, 0, 1)", BAD, x -> x.row(8, 0, 1)));
        calls.add(new Call("row(0, 3, 1)", BAD, x -> x.row(0, 3, 1)));
        calls.add(new Call("row(0, 0, 41)", BAD, x -> x.row(0, 0, 41)));
        calls.add(new Call("row(0, 2, -1)", SIZE, x -> x.row(0, 2, -1)));
        calls.add(new Call("row(3, 2, -1)", SIZE, x -> x.row(3, 2, -1)));
        calls.add(new Call("set(8, 0, 1)", BAD, x -> x.set(8, 0, 1)));
        calls.add(new Call("set(3, 0, 1)", NULL, x -> x.set(3, 0, 1)));
        calls.add(new Call("set(0, 3, 1)", PLACE, x -> x.set(0, 3, 1)));
        calls.add(new Call("copy(0, 0, 8, 0, 1)", BAD, x -> x.copy(0, 0, 8, 0, 1)));
        calls.add(new Call("copy(0, 0, 3, 0, 1)", NULL, x -> x.copy(0, 0, 3, 0, 1)));
        calls.add(new Call("copy(0, 1, 1, 0, 1)", STORE, x -> x.copy(0, 1, 1, 0, 1)));
        calls.add(new Call("copy(0, 1, 0, 0, 3)", PLACE, x -> x.copy(0, 1, 0, 0, 3)));
        calls.add(new Call("copy(0, 0, 0, 1, 3)", PLACE, x -> x.copy(0, 0, 0, 1, 3)));
        calls.add(new Call("drop(8)", BAD, x -> x.drop(8)));
        calls.add(new Call("drop(3)", NULL, x -> x.drop(3)));
        calls.add(new Call("feed(256)", BAD, x -> x.feed(256)));
        calls.add(new Call("feed(-1)", BAD, x -> x.feed(-1)));
    }

    private static void refusedActs(List<Call> calls) {
        calls.add(new Call("serve(3, 1)", BAD, x -> x.serve(3, 1)));
        calls.add(new Call("serve(0, 8)", BAD, x -> x.serve(0, 8)));
        calls.add(new Call("serve(0, 3)", STATE, x -> x.serve(0, 3)));
        calls.add(new Call("serve(0, 4)", STATE, x -> x.serve(0, 4)));
        calls.add(new Call("serve(1, 7)", STATE, x -> x.serve(1, 7)));
        calls.add(new Call("bringBack(3)", BAD, x -> x.bringBack(3)));
        calls.add(new Call("bringBack(0)", STATE, x -> x.bringBack(0)));
        calls.add(new Call("spoil(9)", BAD, x -> x.spoil(9)));
        calls.add(new Call("spoil(8)", STATE, x -> x.spoil(8)));
        calls.add(new Call("spoil(3)", STATE, x -> x.spoil(3)));
        calls.add(new Call("value(9, 0)", BAD, x -> x.value(9, 0)));
        calls.add(new Call("value(0, 10)", BAD, x -> x.value(0, 10)));
        calls.add(new Call("over(10)", BAD, x -> x.over(10)));
        calls.add(new Call("image(2)", BAD, x -> x.image(2)));
        calls.add(new Call("restore(2)", BAD, x -> x.restore(2)));
        calls.add(new Call("restore(1)", STATE, x -> x.restore(1)));
        calls.add(new Call("ask(9, 0)", BAD, x -> x.ask(9, 0)));
        calls.add(new Call("ask(0, 2)", BAD, x -> x.ask(0, 2)));
        calls.add(new Call("as(9, 0)", BAD, x -> x.as(9, 0)));
        calls.add(new Call("as(0, 6)", BAD, x -> x.as(0, 6)));
        calls.add(new Call("as(0, 2)", KIND, x -> x.as(0, 2)));
    }

    private static void refusedQuestions(List<Call> calls) {
        calls.add(new Call("cell(9, 0)", BAD, x -> x.cell(9, 0)));
        calls.add(new Call("customer(3, 0)", BAD, x -> x.customer(3, 0)));
        calls.add(new Call("stand(5)", BAD, x -> x.stand(5)));
        calls.add(new Call("piece(0, 0)", BAD, x -> x.piece(0, 0)));
        calls.add(new Call("parts(-2)", BAD, x -> x.parts(-2)));
        calls.add(new Call("pieces(11, 0)", BAD, x -> x.pieces(11, 0)));
        calls.add(new Call("sums(3)", BAD, x -> x.sums(3)));
        calls.add(new Call("best(1, 0)", STATE, x -> x.best(1, 0)));
        calls.add(new Call("ways(1)", STATE, x -> x.ways(1)));
        calls.add(new Call("thrift(1, 0)", STATE, x -> x.thrift(1, 0)));
        calls.add(new Call("serving(-3)", BAD, x -> x.serving(-3)));
        calls.add(new Call("parting(0, 8, 0)", STATE, x -> x.parting(0, 8, 0)));
        calls.add(new Call("way(0, 3, 0)", STATE, x -> x.way(0, 3, 0)));
        calls.add(new Call("who() of cell 9", BAD, x -> x.who(9, 0, 0, 0, 1, 0, 1)));
        calls.add(new Call("who() of row 3", NULL, x -> x.who(0, 0, 3, 0, 1, 0, 1)));
        calls.add(new Call("who() of place 1", PLACE, x -> x.who(0, 0, 0, 1, 1, 0, 3)));
        calls.add(new Call("who() of rows exchanged", KIND, x -> x.who(0, 0, 1, 1, 0, 0, 1)));
        calls.add(new Call("fits() of n 0", BAD, x -> x.fits(0, 0, 0, 1, 0, 0)));
        calls.add(new Call("fits() of other row 3", NULL, x -> x.fits(0, 0, 0, 3, 0, 1)));
        calls.add(new Call("fits() of other place 1", PLACE, x -> x.fits(1, 0, 0, 1, 1, 3)));
        calls.add(new Call("wrong(1, 11, 0, 0)", BAD, x -> x.wrong(1, 11, 0, 0)));
        calls.add(new Call("drawn(61, 1, 0)", BAD, x -> x.drawn(61, 1, 0)));
        calls.add(new Call("kind(9)", BAD, x -> x.kind(9)));
        calls.add(new Call("count(8)", BAD, x -> x.count(8)));
    }

    private static void untilTheLastCall() {
        says("An object is used for at most 512 calls after it has been made");
        StampSheets x = open(NINE);
        int calls = NINE.length() + 1;
        for (; calls < 509; calls++) {
            x.value(calls % 9, calls % 10);
        }
        due("call 510", x.count(6), 24);
        due("call 511", x.undo(), 23);
        due("call 512", x.piece(511, 2), 9);
    }
}
