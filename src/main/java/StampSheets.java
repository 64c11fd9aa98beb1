import java.util.Arrays;

/**
 * Stamps by the sheet, torn in pieces that hang together. The document ../shared/DOC.md
 * says what each call must do; its words are used as names here.
 *
 * Sets of cells and of customers are bits. All rows that a call needs are made once, with
 * the object, since all calls of a run live in one room.
 */
public final class StampSheets {
    public static final int NONE = -1000000, BAD = -1000001, STATE = -1000002, FULL = -1000003;

    private static final int NULL = 1, PLACE = 2, KIND = 3, SIZE = 4, STORE = 5;
    private static final int BEFORE_FINDINGS = -1000010;
    private static final int BEFORE_FAULTS = -1000100;

    private static final int ROWS = 8;
    private static final int LANES = 3;
    private static final int ITEMS = 40;
    private static final int CELLS = 10;
    private static final int CUSTOMERS = 5;
    private static final int SETS = 1 << CELLS;
    private static final int KINDS = 6;
    private static final int IMAGES = 2;
    private static final int DAYS = 60;
    private static final int SEEDS = 999999;

    private final Row[] rows = new Row[ROWS];
    private final Reader reader = new Reader();
    private final Sheet now = new Sheet();
    private final Sheet trial = new Sheet();
    private final Sheet[] images = new Sheet[IMAGES];
    private final Acts acts = new Acts();
    private final Finder finder = new Finder();
    private final Asks asks = new Asks();
    private final Told told = new Told();
    private int status = 0;

    public StampSheets() {
        for (int i = 0; i < ROWS; i++) {
            rows[i] = new Row();
        }
        for (int i = 0; i < IMAGES; i++) {
            images[i] = new Sheet();
        }
    }

    // ---- rows

    public int row(int row, int lane, int n) {
        if (!isRow(row) || lane < 0 || lane >= LANES || n > ITEMS) {
            return BAD;
        }
        if (n < 0) {
            return found(SIZE);
        }
        rows[row].begin(lane, n);
        return fine(n);
    }

    public int set(int row, int i, int v) {
        if (!isRow(row)) {
            return BAD;
        }
        if (!rows[row].there) {
            return found(NULL);
        }
        if (!rows[row].reaches(i, 1)) {
            return found(PLACE);
        }
        return fine(rows[row].put(i, v));
    }

    public int copy(int a, int i, int b, int j, int n) {
        if (!isRow(a) || !isRow(b)) {
            return BAD;
        }
        Row from = rows[a];
        Row to = rows[b];
        if (!from.there || !to.there) {
            return found(NULL);
        }
        if (from.lane != to.lane) {
            return found(STORE);
        }
        if (!from.reaches(i, n) || !to.reaches(j, n)) {
            return found(PLACE);
        }
        System.arraycopy(from.items, i, to.items, j, n);
        return fine(n);
    }

    public int drop(int row) {
        if (!isRow(row)) {
            return BAD;
        }
        if (!rows[row].there) {
            return found(NULL);
        }
        rows[row].there = false;
        return fine(rows[row].size);
    }

    // ---- what is told

    public int feed(int letter) {
        if (letter < 0 || letter > 255) {
            return BAD;
        }
        return reader.append(letter) ? reader.length : FULL;
    }

    public int sheet() {
        // The trial sheet is read into first, so that a faulty text leaves the sheet as it is.
        if (!reader.read(trial)) {
            return BEFORE_FAULTS - reader.start;
        }
        putInPlace(trial);
        return now.cells;
    }

    public int fault() {
        return reader.fault;
    }

    public int undo() {
        if (acts.size == 0) {
            return STATE;
        }
        acts.takeBackLatest(now);
        return acts.size;
    }

    // ---- what is done

    public int serve(int customer, int piece) {
        if (!isCustomer(customer) || !finder.isPiece(now, piece)) {
            return BAD;
        }
        if (now.isServed(customer) || !now.suits(customer, now.paysOf(piece))) {
            return STATE;
        }
        int tears = now.tearsOf(piece);
        now.sell(customer, piece, tears);
        acts.keep(Acts.SERVED, customer, tears);
        return tears;
    }

    public int bringBack(int customer) {
        if (!isCustomer(customer)) {
            return BAD;
        }
        if (!now.isServed(customer)) {
            return STATE;
        }
        int piece = now.pieceOf[customer];
        now.takeBack(customer);
        acts.keep(Acts.BROUGHT_BACK, customer, piece);
        return now.paysOf(piece);
    }

    public int spoil(int cell) {
        if (!isCell(cell)) {
            return BAD;
        }
        if (!now.isOn(cell)) {
            return STATE;
        }
        now.lose(cell);
        acts.keep(Acts.SPOILT, cell, 0);
        return Integer.bitCount(now.on);
    }

    public int value(int cell, int v) {
        if (!isCell(cell) || !isFigure(v)) {
            return BAD;
        }
        int was = now.worth[cell];
        now.worth[cell] = v;
        acts.keep(Acts.VALUED, cell, was);
        return was;
    }

    public int over(int v) {
        if (!isThere()) {
            return STATE;
        }
        if (!isFigure(v)) {
            return BAD;
        }
        int was = now.over;
        now.over = v;
        acts.keep(Acts.OVERED, 0, was);
        return was;
    }

    public int cell(int cell, int what) {
        if (!isCell(cell)) {
            return BAD;
        }
        switch (what) {
            case 0: return now.worth[cell];
            case 1: return now.howIs(cell);
            case 2: return now.next[cell] & now.on;
            case 3: return now.ownerOf(cell);
            default: return BAD;
        }
    }

    public int customer(int customer, int what) {
        if (!isCustomer(customer)) {
            return BAD;
        }
        switch (what) {
            case 0: return now.least[customer];
            case 1: return now.most[customer];
            case 2: return now.pieceOf[customer];
            default: return BAD;
        }
    }

    public int stand(int what) {
        if (!isThere()) {
            return STATE;
        }
        switch (what) {
            case 0: return now.on;
            case 1: return now.served();
            case 2: return now.torn;
            case 3: return now.over;
            case 4: return now.spoilt;
            default: return BAD;
        }
    }

    // ---- foretold

    public int piece(int piece, int what) {
        if (!finder.isPiece(now, piece)) {
            return BAD;
        }
        switch (what) {
            case 0: return now.paysOf(piece);
            case 1: return now.tearsOf(piece);
            case 2: return Integer.bitCount(piece);
            case 3: return now.countParts(now.on ^ piece);
            default: return BAD;
        }
    }

    public int parts(int k) {
        if (!isThere()) {
            return STATE;
        }
        if (k < -1) {
            return BAD;
        }
        return k == -1 ? now.countParts(now.on) : now.partNumber(k);
    }

    public int pieces(int n, int what) {
        if (!isThere()) {
            return STATE;
        }
        if (n < 1 || n > CELLS) {
            return BAD;
        }
        switch (what) {
            case 0: return finder.countAll(now);
            case 1: return finder.countOf(now, n, false);
            case 2: return finder.countOf(now, n, true);
            default: return BAD;
        }
    }

    public int sums(int what) {
        if (!isThere()) {
            return STATE;
        }
        if (what < 0 || what > 2) {
            return BAD;
        }
        finder.weigh(now);
        if (what == 2) {
            return finder.greatestSum(now);
        }
        finder.markSums(now);
        return what == 0 ? finder.countSums() : finder.leastSumUnpaid();
    }

    public int best(int customer, int what) {
        if (!isCustomer(customer) || !isEither(what)) {
            return BAD;
        }
        if (now.isServed(customer)) {
            return STATE;
        }
        finder.weigh(now);
        int piece = finder.bestFor(now, customer);
        if (piece == 0) {
            return NONE;
        }
        return what == 0 ? piece : now.tearsOf(piece);
    }

    public int ways(int customer) {
        if (!isCustomer(customer)) {
            return BAD;
        }
        if (now.isServed(customer)) {
            return STATE;
        }
        finder.weigh(now);
        return finder.countFor(now, customer);
    }

    public int thrift(int customer, int what) {
        if (!isCustomer(customer) || !isEither(what)) {
            return BAD;
        }
        if (now.isServed(customer)) {
            return STATE;
        }
        finder.weigh(now);
        int piece = finder.cheapestFor(now, customer);
        if (piece == 0) {
            return NONE;
        }
        return what == 0 ? piece : now.paysOf(piece);
    }

    public int serving(int k) {
        if (!isThere()) {
            return STATE;
        }
        if (k < -2 || k >= now.customers) {
            return BAD;
        }
        finder.weigh(now);
        int who = finder.mostServed(now);
        if (k == -1) {
            return Integer.bitCount(who);
        }
        return k == -2 ? who : finder.pieceAmongServed(now, who, k);
    }

    public int couples() {
        if (!isThere()) {
            return STATE;
        }
        return finder.countCouplings(now);
    }

    public int parting(int cell, int other, int what) {
        if (!areTwoCells(cell, other) || !isEither(what)) {
            return BAD;
        }
        if (!now.isOn(cell) || !now.isOn(other)) {
            return STATE;
        }
        int side = finder.sideOf(now, cell, other);
        return what == 0 ? now.tearsOf(side) : side;
    }

    public int way(int cell, int other, int what) {
        if (!areTwoCells(cell, other) || !isEither(what)) {
            return BAD;
        }
        if (!now.isOn(cell) || !now.isOn(other)) {
            return STATE;
        }
        return what == 0 ? now.stepsBetween(cell, other) : now.firstStep(cell, other);
    }

    public int lone() {
        if (!isThere()) {
            return STATE;
        }
        int parts = now.countParts(now.on);
        int lone = 0;
        for (int c = 0; c < now.cells; c++) {
            if (now.isOn(c) && now.countParts(now.on ^ (1 << c)) > parts) {
                lone |= 1 << c;
            }
        }
        return lone;
    }

    public int who(int cell, int which, int row, int i, int other, int j, int n) {
        if (!isCell(cell) || !isEither(which) || !areRowsOf(row, other, n)) {
            return BAD;
        }
        int finding = takeTold(row, i, other, j, n);
        if (finding != 0) {
            return found(finding);
        }
        return fine(which == 0 ? kindsThatFit(cell) : valuesThatFit(cell));
    }

    public int fits(int which, int row, int i, int other, int j, int n) {
        if (!isThere()) {
            return STATE;
        }
        if (which < 0 || which > 2 || !areRowsOf(row, other, n)) {
            return BAD;
        }
        int finding = takeTold(row, i, other, j, n);
        if (finding != 0) {
            return found(finding);
        }
        if (which == 0) {
            return fine(oversThatFit());
        }
        return fine(which == 1 ? countSwaps() : firstSwap());
    }

    public long wrong(int piece, int k, int p, int what) {
        if (!finder.isPiece(now, piece) || k < 0 || k > 10 || p < 0 || p > 10 || !isEither(what)) {
            return BAD;
        }
        long all = powerOf(10, now.tearsOf(piece));
        long few = finder.casesOfFewLost(now, piece, k, p);
        long common = commonDivisor(all, few);
        if (common == 0) {
            return 0;
        }
        return (what == 0 ? few : all) / common;
    }

    public int drawn(int n, int seed, int what) {
        if (!isThere()) {
            return STATE;
        }
        if (n < 0 || n > DAYS || seed < 1 || seed > SEEDS || !isEither(what)) {
            return BAD;
        }
        trial.become(now);
        finder.weigh(now);
        long x = seed;
        for (int day = 0; day < n; day++) {
            x = x * 16807 % 2147483647;
            liveDay(trial, x);
        }
        return what == 0 ? trial.served() : trial.torn;
    }

    public int image(int k) {
        if (!isEither(k)) {
            return BAD;
        }
        if (!isThere()) {
            return STATE;
        }
        images[k].become(now);
        return 1;
    }

    public int restore(int k) {
        if (!isEither(k)) {
            return BAD;
        }
        if (images[k].cells == 0) {
            return STATE;
        }
        putInPlace(images[k]);
        return 1;
    }

    // ---- asked

    public int kind(int one) {
        return isCell(one) ? now.kindOf[one] : BAD;
    }

    public int as(int one, int kind) {
        if (!isCell(one) || kind < 0 || kind >= KINDS) {
            return BAD;
        }
        return Asks.isAlso(now.kindOf[one], kind) ? fine(one) : found(KIND);
    }

    public int ask(int one, int what) {
        if (!isCell(one) || !isEither(what)) {
            return BAD;
        }
        return asks.answer(now, one, what);
    }

    public int trace(int i) {
        return i >= 0 && i < asks.left ? asks.trace[i] : NONE;
    }

    public int count(int what) {
        switch (what) {
            case 0: return countRows();
            case 1: return now.cells;
            case 2: return now.customers;
            case 3: return Integer.bitCount(now.on);
            case 4: return now.served();
            case 5: return now.torn;
            case 6: return acts.size;
            case 7: return reader.length;
            default: return BAD;
        }
    }

    public int status() {
        return status;
    }

    // ---- what calls have in common

    private int found(int finding) {
        status = finding;
        return BEFORE_FINDINGS - finding;
    }

    private int fine(int answer) {
        status = 0;
        return answer;
    }

    private boolean isThere() {
        return now.cells > 0;
    }

    private boolean isCell(int cell) {
        return cell >= 0 && cell < now.cells;
    }

    private boolean areTwoCells(int cell, int other) {
        return isCell(cell) && isCell(other) && cell != other;
    }

    private boolean isCustomer(int customer) {
        return customer >= 0 && customer < now.customers;
    }

    private static boolean isRow(int row) {
        return row >= 0 && row < ROWS;
    }

    private static boolean isFigure(int v) {
        return v >= 0 && v <= 9;
    }

    private static boolean isEither(int what) {
        return what == 0 || what == 1;
    }

    private static boolean areRowsOf(int row, int other, int n) {
        return isRow(row) && isRow(other) && n >= 1 && n <= CELLS;
    }

    private int countRows() {
        int n = 0;
        for (int i = 0; i < ROWS; i++) {
            n += rows[i].there ? 1 : 0;
        }
        return n;
    }

    private void putInPlace(Sheet other) {
        now.become(other);
        finder.learn(now);
        acts.size = 0;
    }

    private void liveDay(Sheet sheet, long x) {
        if (sheet.customers == 0 || x % 3 == 0) {
            int cell = restBy(x, sheet.cells);
            if (sheet.isOn(cell)) {
                sheet.lose(cell);
            }
            return;
        }
        int customer = restBy(x, sheet.customers);
        if (sheet.isServed(customer)) {
            sheet.takeBack(customer);
            return;
        }
        int piece = finder.bestFor(sheet, customer);
        if (piece != 0) {
            sheet.sell(customer, piece, sheet.tearsOf(piece));
        }
    }

    private static int restBy(long x, int n) {
        return n > 0 ? (int) (x % n) : 0;
    }

    private static long powerOf(long base, int n) {
        long power = 1;
        for (int i = 0; i < n; i++) {
            power *= base;
        }
        return power;
    }

    private static long commonDivisor(long a, long b) {
        long rest = b;
        long last = a;
        // Euclid on numbers of 63 bits takes fewer than 100 steps.
        for (int i = 0; i < 100 && rest != 0; i++) {
            long next = last % rest;
            last = rest;
            rest = next;
        }
        return last;
    }

    // ---- what two rows tell

    private int takeTold(int row, int i, int other, int j, int n) {
        Row cells = rows[row];
        if (!cells.there) {
            return NULL;
        }
        if (!cells.reaches(i, n)) {
            return PLACE;
        }
        if (!told.takeCells(cells, i, n, now.cells)) {
            return KIND;
        }
        Row pays = rows[other];
        if (!pays.there) {
            return NULL;
        }
        if (!pays.reaches(j, n)) {
            return PLACE;
        }
        told.takePays(pays, j);
        return 0;
    }

    private int kindsThatFit(int cell) {
        trial.become(now);
        int fitting = 0;
        for (int kind = 1; kind < KINDS; kind++) {
            trial.put(cell, kind, now.worth[cell]);
            fitting |= told.isSo(trial) ? 1 << kind : 0;
        }
        return fitting;
    }

    private int valuesThatFit(int cell) {
        trial.become(now);
        int fitting = 0;
        for (int v = 0; v <= 9; v++) {
            trial.worth[cell] = v;
            fitting |= told.isSo(trial) ? 1 << v : 0;
        }
        return fitting;
    }

    private int oversThatFit() {
        trial.become(now);
        int fitting = 0;
        for (int v = 0; v <= 9; v++) {
            trial.over = v;
            fitting |= told.isSo(trial) ? 1 << v : 0;
        }
        return fitting;
    }

    private int countSwaps() {
        int n = 0;
        for (int a = 0; a < now.cells; a++) {
            for (int b = a + 1; b < now.cells; b++) {
                n += fitsSwapped(a, b) ? 1 : 0;
            }
        }
        return n;
    }

    private int firstSwap() {
        for (int a = 0; a < now.cells; a++) {
            for (int b = a + 1; b < now.cells; b++) {
                if (fitsSwapped(a, b)) {
                    return 10 * a + b;
                }
            }
        }
        return NONE;
    }

    private boolean fitsSwapped(int a, int b) {
        trial.become(now);
        trial.put(a, now.kindOf[b], now.worth[b]);
        trial.put(b, now.kindOf[a], now.worth[a]);
        return told.isSo(trial);
    }

    /** A row of items; a missing one keeps its room, so that none is made anew. */
    private static final class Row {
        private final int[] items = new int[ITEMS];
        private boolean there = false;
        private int lane = 0;
        private int size = 0;

        private void begin(int newLane, int n) {
            there = true;
            lane = newLane;
            size = n;
            Arrays.fill(items, 0);
        }

        /** Written so that no sum can overflow. */
        private boolean reaches(int from, int n) {
            return from >= 0 && n >= 0 && from <= size && n <= size - from;
        }

        private int put(int i, int v) {
            if (lane == 0) {
                items[i] = (byte) v;
            } else if (lane == 1) {
                items[i] = (short) v;
            } else {
                items[i] = v;
            }
            return items[i];
        }
    }

    /** What two rows tell: cells, and what the set of all told by then pays each time. */
    private static final class Told {
        private final int[] cells = new int[CELLS];
        private final int[] pays = new int[CELLS];
        private int size = 0;

        /** False: an item is no cell of a sheet of so many, or was told ahead. */
        private boolean takeCells(Row row, int i, int n, int many) {
            int seen = 0;
            size = 0;
            for (int t = 0; t < n && t < CELLS; t++) {
                int cell = row.items[i + t];
                if (cell < 0 || cell >= many || (seen >> cell & 1) != 0) {
                    return false;
                }
                seen |= 1 << cell;
                cells[t] = cell;
                size = t + 1;
            }
            return true;
        }

        private void takePays(Row row, int j) {
            for (int t = 0; t < size; t++) {
                pays[t] = row.items[j + t];
            }
        }

        private boolean isSo(Sheet sheet) {
            int set = 0;
            for (int t = 0; t < size; t++) {
                set |= 1 << cells[t];
                if (sheet.paysOf(set) != pays[t]) {
                    return false;
                }
            }
            return true;
        }
    }

    /** The tape, and what reads it, token by token. */
    private static final class Reader {
        private static final int BYTES = 120;
        // Other tokens are told by their own sign.
        private static final int NUMBER = 0, END = -1, NO_TOKEN = -2;
        private static final int MISPLACED = 1, OUT_OF_RANGE = 2, NO_ROOM = 3;

        private final int[] tape = new int[BYTES];
        private int length = 0;
        private int at = 0;
        private int start = 0;
        private int token = END;
        private int number = 0;
        private int fault = 0;

        private boolean append(int letter) {
            if (length >= BYTES) {
                return false;
            }
            tape[length] = letter;
            length++;
            return true;
        }

        /** False: there is a fault, in the token that begins at start. */
        private boolean read(Sheet into) {
            at = 0;
            step();
            boolean read = readLaw(into) && readStamps(into) && readCustomers(into);
            length = 0;
            return read;
        }

        private boolean readLaw(Sheet into) {
            if (!takes('w')) {
                return false;
            }
            int wide = takeNumber(1, 6);
            if (wide < 1 || !takes(',')) {
                return false;
            }
            int high = takeNumber(1, Math.min(6, CELLS / wide));
            if (high < 1 || !takes(',')) {
                return false;
            }
            int over = takeNumber(0, 9);
            if (over < 0 || !takes(';')) {
                return false;
            }
            into.begin(wide, high, over);
            return true;
        }

        private boolean readStamps(Sheet into) {
            for (int cell = 0; cell < into.cells; cell++) {
                int kind = kindOfSort();
                if (kind == 0) {
                    return refuse(MISPLACED);
                }
                step();
                int worth = takeNumber(0, 9);
                if (worth < 0 || !takes(';')) {
                    return false;
                }
                into.put(cell, kind, worth);
            }
            return kindOfSort() == 0 || refuse(NO_ROOM);
        }

        private boolean readCustomers(Sheet into) {
            for (int customer = 0; customer < CUSTOMERS && token == 'n'; customer++) {
                step();
                int least = takeNumber(0, 99);
                if (least < 0 || !takes(',')) {
                    return false;
                }
                int most = takeNumber(least, 99);
                if (most < 0 || !takes(';')) {
                    return false;
                }
                into.add(least, most);
            }
            if (token == 'n') {
                return refuse(NO_ROOM);
            }
            return token == END || refuse(MISPLACED);
        }

        private int kindOfSort() {
            switch (token) {
                case 'o': return 1;
                case 'u': return 2;
                case 'd': return 3;
                case 'a': return 4;
                case 'e': return 5;
                default: return 0;
            }
        }

        private boolean takes(int sign) {
            if (token != sign) {
                return refuse(MISPLACED);
            }
            step();
            return true;
        }

        /** Below 0: there is no such number here. */
        private int takeNumber(int least, int most) {
            if (token != NUMBER) {
                refuse(MISPLACED);
                return -1;
            }
            int taken = number;
            if (taken < least || taken > most) {
                refuse(OUT_OF_RANGE);
                return -1;
            }
            step();
            return taken;
        }

        private boolean refuse(int why) {
            fault = why;
            return false;
        }

        private void step() {
            start = at;
            if (at >= length) {
                token = END;
                return;
            }
            int sign = tape[at];
            if (isFigureSign(sign)) {
                stepOverNumber();
                return;
            }
            at++;
            token = sign >= 'a' && sign <= 'z' || sign == ',' || sign == ';' ? sign : NO_TOKEN;
        }

        private void stepOverNumber() {
            number = 0;
            for (; at < length && isFigureSign(tape[at]); at++) {
                number = 10 * number + tape[at] - '0';
            }
            token = at - start <= 2 ? NUMBER : NO_TOKEN;
        }

        private static boolean isFigureSign(int sign) {
            return sign >= '0' && sign <= '9';
        }
    }

    /** A sheet, as it stands. Without cells it is none. */
    private static final class Sheet {
        private int wide = 0;
        private int cells = 0;
        private int customers = 0;
        private int over = 0;
        private int torn = 0;
        private int on = 0;
        private int spoilt = 0;
        private int air = 0;
        private final int[] next = new int[CELLS];
        private final int[] kindOf = new int[CELLS];
        private final int[] worth = new int[CELLS];
        private final int[] least = new int[CUSTOMERS];
        private final int[] most = new int[CUSTOMERS];
        private final int[] pieceOf = new int[CUSTOMERS];

        private void begin(int newWide, int high, int newOver) {
            wide = newWide;
            cells = Math.min(newWide * high, CELLS);
            customers = 0;
            over = newOver;
            torn = 0;
            on = (1 << cells) - 1;
            spoilt = 0;
            air = 0;
            for (int c = 0; c < cells; c++) {
                next[c] = findNext(c);
            }
        }

        private int findNext(int c) {
            if (wide < 1) {
                return 0;
            }
            int set = 0;
            set |= c % wide > 0 ? 1 << c - 1 : 0;
            set |= c % wide < wide - 1 ? 1 << c + 1 : 0;
            set |= c >= wide ? 1 << c - wide : 0;
            set |= c + wide < cells ? 1 << c + wide : 0;
            return set;
        }

        private void put(int cell, int kind, int newWorth) {
            kindOf[cell] = kind;
            worth[cell] = newWorth;
            air = kind >= 4 ? air | 1 << cell : air & ~(1 << cell);
        }

        private void add(int newLeast, int newMost) {
            if (customers < CUSTOMERS) {
                least[customers] = newLeast;
                most[customers] = newMost;
                pieceOf[customers] = 0;
                customers++;
            }
        }

        private void become(Sheet other) {
            wide = other.wide;
            cells = other.cells;
            customers = other.customers;
            over = other.over;
            torn = other.torn;
            on = other.on;
            spoilt = other.spoilt;
            air = other.air;
            System.arraycopy(other.next, 0, next, 0, CELLS);
            System.arraycopy(other.kindOf, 0, kindOf, 0, CELLS);
            System.arraycopy(other.worth, 0, worth, 0, CELLS);
            System.arraycopy(other.least, 0, least, 0, CUSTOMERS);
            System.arraycopy(other.most, 0, most, 0, CUSTOMERS);
            System.arraycopy(other.pieceOf, 0, pieceOf, 0, CUSTOMERS);
        }

        private void sell(int customer, int piece, int tears) {
            pieceOf[customer] = piece;
            on &= ~piece;
            torn += tears;
        }

        private void takeBack(int customer) {
            on |= pieceOf[customer];
            pieceOf[customer] = 0;
        }

        private void lose(int cell) {
            on &= ~(1 << cell);
            spoilt |= 1 << cell;
        }

        private boolean isOn(int cell) {
            return (on >> cell & 1) != 0;
        }

        private boolean holds(int set) {
            return (set & ~on) == 0;
        }

        private boolean isServed(int customer) {
            return pieceOf[customer] != 0;
        }

        private boolean suits(int customer, int pay) {
            return least[customer] <= pay && pay <= most[customer];
        }

        private int served() {
            int set = 0;
            for (int i = 0; i < customers; i++) {
                set |= isServed(i) ? 1 << i : 0;
            }
            return set;
        }

        private int howIs(int cell) {
            if (isOn(cell)) {
                return 0;
            }
            return (spoilt >> cell & 1) != 0 ? 2 : 1;
        }

        private int ownerOf(int cell) {
            for (int i = 0; i < customers; i++) {
                if ((pieceOf[i] >> cell & 1) != 0) {
                    return i;
                }
            }
            return NONE;
        }

        private int paysOf(int set) {
            int pay = 0;
            for (int c = 0; c < cells; c++) {
                pay += (set >> c & 1) != 0 ? payOfStamp(c, set) : 0;
            }
            return pay;
        }

        private int payOfStamp(int c, int set) {
            switch (kindOf[c]) {
                case 1: return worth[c];
                case 2: return worth[c] + over;
                case 3: return worth[c] / 2;
                case 4: return worth[c] * Integer.bitCount(next[c] & set & air);
                case 5: return worth[c] * Integer.bitCount(next[c] & set & air) + 5;
                default: return 0;
            }
        }

        private int tearsOf(int piece) {
            int tears = 0;
            for (int c = 0; c < cells; c++) {
                tears += (piece >> c & 1) != 0 ? Integer.bitCount(next[c] & on & ~piece) : 0;
            }
            return tears;
        }

        private int nextTo(int set) {
            int all = 0;
            for (int c = 0; c < cells; c++) {
                all |= (set >> c & 1) != 0 ? next[c] : 0;
            }
            return all;
        }

        private int partAround(int seed, int within) {
            int part = seed;
            for (int i = 0; i < CELLS; i++) {
                part |= nextTo(part) & within;
            }
            return part;
        }

        private int countParts(int within) {
            int left = within;
            int n = 0;
            for (; n < CELLS && left != 0; n++) {
                left &= ~partAround(Integer.lowestOneBit(left), within);
            }
            return n;
        }

        private int partNumber(int k) {
            int left = on;
            for (int n = 0; n < CELLS && left != 0; n++) {
                int part = partAround(Integer.lowestOneBit(left), on);
                if (n == k) {
                    return part;
                }
                left &= ~part;
            }
            return NONE;
        }

        private int stepsBetween(int cell, int other) {
            int near = 1 << other;
            for (int steps = 0; steps < CELLS; steps++) {
                if ((near >> cell & 1) != 0) {
                    return steps;
                }
                near |= nextTo(near) & on;
            }
            return NONE;
        }

        /** A cell next to the first one is on a shortest way if it is a step nearer. */
        private int firstStep(int cell, int other) {
            int steps = stepsBetween(cell, other);
            for (int c = 0; steps > 0 && c < cells; c++) {
                boolean isNext = (next[cell] & on & 1 << c) != 0;
                if (isNext && stepsBetween(c, other) == steps - 1) {
                    return c;
                }
            }
            return NONE;
        }
    }

    /** The latest acts, in a ring, each with what it takes to undo it. */
    private static final class Acts {
        private static final int SERVED = 0, BROUGHT_BACK = 1, SPOILT = 2, VALUED = 3, OVERED = 4;
        private static final int KEPT = 24;

        private final int[] deed = new int[KEPT];
        private final int[] whose = new int[KEPT];
        private final int[] before = new int[KEPT];
        private int free = 0;
        private int size = 0;

        private void keep(int newDeed, int newWhose, int newBefore) {
            deed[free] = newDeed;
            whose[free] = newWhose;
            before[free] = newBefore;
            free = (free + 1) % KEPT;
            size = Math.min(size + 1, KEPT);
        }

        private void takeBackLatest(Sheet sheet) {
            free = (free + KEPT - 1) % KEPT;
            size--;
            int one = whose[free];
            switch (deed[free]) {
                case SERVED:
                    sheet.takeBack(one);
                    sheet.torn -= before[free];
                    break;
                case BROUGHT_BACK:
                    sheet.sell(one, before[free], 0);
                    break;
                case SPOILT:
                    sheet.on |= 1 << one;
                    sheet.spoilt &= ~(1 << one);
                    break;
                case VALUED:
                    sheet.worth[one] = before[free];
                    break;
                default:
                    sheet.over = before[free];
                    break;
            }
        }
    }

    /**
     * What goes through all pieces of a sheet. Sets come from the least on, so that of equal
     * ones the first found is the least.
     */
    private static final class Finder {
        /** A sheet of 5 by 2 has most sets that hang together. */
        private static final int MOST_HANGING = 275;
        private static final int SUMS = 100;
        /** Of the sets of customers (a bit each of 32) those without customer 0, 1, .. */
        private static final int[] WITHOUT = {0x55555555, 0x33333333, 0x0F0F0F0F, 0x00FF00FF, 0x0000FFFF};

        private final boolean[] hangs = new boolean[SETS];
        private final int[] hanging = new int[MOST_HANGING];
        private final int[] pays = new int[MOST_HANGING];
        private int many = 0;
        private final int[] suited = new int[SETS];
        private final int[] table = new int[SETS];
        private final int[] paid = new int[SUMS];
        private final long[] cases = new long[CELLS + 1];

        /** Which sets hang together depends on the sheet's form alone. */
        private void learn(Sheet sheet) {
            int end = 1 << sheet.cells;
            many = 0;
            for (int set = 1; set < end && set < SETS; set++) {
                hangs[set] = Integer.bitCount(set) == 1 || hangsByOneLess(sheet, set);
                if (hangs[set] && many < MOST_HANGING) {
                    hanging[many] = set;
                    many++;
                }
            }
        }

        /** What hangs together does so without one of its cells, too. */
        private boolean hangsByOneLess(Sheet sheet, int set) {
            for (int c = 0; c < sheet.cells; c++) {
                boolean isNext = (set >> c & 1) != 0 && (sheet.next[c] & set) != 0;
                if (isNext && hangs[set ^ 1 << c]) {
                    return true;
                }
            }
            return false;
        }

        /** Ahead of all that asks what pieces pay: while days go by that does not change. */
        private void weigh(Sheet sheet) {
            for (int i = 0; i < many; i++) {
                pays[i] = sheet.paysOf(hanging[i]);
            }
        }

        private boolean isPiece(Sheet sheet, int set) {
            return set > 0 && set < SETS && sheet.holds(set) && hangs[set];
        }

        private boolean couldServe(Sheet sheet, int customer, int i) {
            return sheet.holds(hanging[i]) && sheet.suits(customer, pays[i]);
        }

        private int countAll(Sheet sheet) {
            int n = 0;
            for (int i = 0; i < many; i++) {
                n += sheet.holds(hanging[i]) ? 1 : 0;
            }
            return n;
        }

        private int countOf(Sheet sheet, int stamps, boolean straight) {
            int n = 0;
            for (int i = 0; i < many; i++) {
                int set = hanging[i];
                if (Integer.bitCount(set) == stamps && sheet.holds(set)) {
                    n += !straight || isStraight(sheet, set) ? 1 : 0;
                }
            }
            return n;
        }

        private boolean isStraight(Sheet sheet, int set) {
            if (sheet.wide < 1) {
                return false;
            }
            int first = Integer.numberOfTrailingZeros(set);
            boolean inRow = true;
            boolean inColumn = true;
            for (int c = 0; c < sheet.cells; c++) {
                if ((set >> c & 1) != 0) {
                    inRow &= c / sheet.wide == first / sheet.wide;
                    inColumn &= c % sheet.wide == first % sheet.wide;
                }
            }
            return inRow || inColumn;
        }

        private void markSums(Sheet sheet) {
            Arrays.fill(paid, 0);
            for (int i = 0; i < many; i++) {
                if (sheet.holds(hanging[i]) && pays[i] >= 0 && pays[i] < SUMS) {
                    paid[pays[i]] = 1;
                }
            }
        }

        private int countSums() {
            int n = 0;
            for (int sum = 0; sum < SUMS; sum++) {
                n += paid[sum];
            }
            return n;
        }

        private int leastSumUnpaid() {
            for (int sum = 0; sum < SUMS; sum++) {
                if (paid[sum] == 0) {
                    return sum;
                }
            }
            return NONE;
        }

        private int greatestSum(Sheet sheet) {
            int greatest = 0;
            for (int i = 0; i < many; i++) {
                if (sheet.holds(hanging[i])) {
                    greatest = Math.max(greatest, pays[i]);
                }
            }
            return greatest;
        }

        /** 0: there is none. */
        private int bestFor(Sheet sheet, int customer) {
            int best = 0;
            int rank = 0;
            for (int i = 0; i < many; i++) {
                if (couldServe(sheet, customer, i)) {
                    int newRank = rankOf(sheet, hanging[i]);
                    if (best == 0 || newRank < rank) {
                        best = hanging[i];
                        rank = newRank;
                    }
                }
            }
            return best;
        }

        /** By TEARS, then by STAMPS, which are fewer than 16. */
        private static int rankOf(Sheet sheet, int set) {
            return 16 * sheet.tearsOf(set) + Integer.bitCount(set);
        }

        private int countFor(Sheet sheet, int customer) {
            int n = 0;
            for (int i = 0; i < many; i++) {
                n += couldServe(sheet, customer, i) ? 1 : 0;
            }
            return n;
        }

        /** 0: there is none. */
        private int cheapestFor(Sheet sheet, int customer) {
            int cheapest = 0;
            int pay = 0;
            for (int i = 0; i < many; i++) {
                boolean isCheaper = cheapest == 0 || pays[i] < pay;
                if (isCheaper && couldServe(sheet, customer, i)) {
                    cheapest = hanging[i];
                    pay = pays[i];
                }
            }
            return cheapest;
        }

        /** The least of the largest sets of customers who can be served all at once. */
        private int mostServed(Sheet sheet) {
            findSuited(sheet);
            findServable(sheet);
            int most = 0;
            for (int who = 1; who < 1 << CUSTOMERS; who++) {
                if (canServe(sheet.on, who) && Integer.bitCount(who) > Integer.bitCount(most)) {
                    most = who;
                }
            }
            return most;
        }

        private void findSuited(Sheet sheet) {
            Arrays.fill(suited, 0);
            for (int i = 0; i < many; i++) {
                if (sheet.holds(hanging[i])) {
                    suited[hanging[i]] = suitedBy(sheet, pays[i]);
                }
            }
        }

        private int suitedBy(Sheet sheet, int pay) {
            int who = 0;
            for (int i = 0; i < sheet.customers; i++) {
                who |= !sheet.isServed(i) && sheet.suits(i, pay) ? 1 << i : 0;
            }
            return who;
        }

        /**
         * For each set of cells, which sets of customers it can serve (a bit each): the
         * least cell of it is of no piece, or of one that begins there.
         */
        private void findServable(Sheet sheet) {
            table[0] = 1;
            for (int set = 1; set <= sheet.on && set < SETS; set++) {
                if (sheet.holds(set)) {
                    table[set] = servableBy(set);
                }
            }
        }

        private int servableBy(int set) {
            int first = Integer.lowestOneBit(set);
            int others = set ^ first;
            int servable = table[others];
            // Each step takes the next lesser part of the others, down to none of them.
            for (int more = others; more >= 0; more--) {
                more &= others;
                int piece = first | more;
                if (suited[piece] != 0) {
                    servable |= withOneMore(table[set ^ piece], suited[piece]);
                }
            }
            return servable;
        }

        private static int withOneMore(int servable, int who) {
            int more = 0;
            for (int i = 0; i < CUSTOMERS; i++) {
                if ((who >> i & 1) != 0) {
                    more |= (servable & WITHOUT[i]) << (1 << i);
                }
            }
            return more;
        }

        private boolean canServe(int set, int who) {
            return (table[set] >>> who & 1) != 0;
        }

        /** Behind mostServed(): the piece of one customer in the first row; 0: not of these. */
        private int pieceAmongServed(Sheet sheet, int who, int customer) {
            int left = sheet.on;
            int others = who;
            for (int i = 0; i <= customer && i < CUSTOMERS; i++) {
                if ((who >> i & 1) != 0) {
                    others ^= 1 << i;
                    int piece = firstPieceLeaving(left, i, others);
                    if (i == customer) {
                        return piece;
                    }
                    left ^= piece;
                }
            }
            return 0;
        }

        private int firstPieceLeaving(int left, int customer, int others) {
            for (int set = 1; set <= left; set++) {
                boolean suits = (set & ~left) == 0 && (suited[set] >> customer & 1) != 0;
                if (suits && canServe(left ^ set, others)) {
                    return set;
                }
            }
            return 0;
        }

        /** The least cell of a set must be coupled with one next to it. */
        private int countCouplings(Sheet sheet) {
            table[0] = 1;
            for (int set = 1; set <= sheet.on && set < SETS; set++) {
                int first = Integer.numberOfTrailingZeros(set);
                int n = 0;
                for (int c = first + 1; c < sheet.cells; c++) {
                    if ((sheet.next[first] & set & 1 << c) != 0) {
                        n += table[set ^ 1 << first ^ 1 << c];
                    }
                }
                table[set] = n;
            }
            return table[sheet.on];
        }

        /** The side of the first cell is a piece: what else were on it would cost no fewer. */
        private int sideOf(Sheet sheet, int cell, int other) {
            int side = 0;
            int fewest = 0;
            for (int i = 0; i < many; i++) {
                int set = hanging[i];
                boolean parts = (set >> cell & 1) != 0 && (set >> other & 1) == 0;
                if (parts && sheet.holds(set)) {
                    int tears = sheet.tearsOf(set);
                    if (side == 0 || tears < fewest) {
                        side = set;
                        fewest = tears;
                    }
                }
            }
            return side;
        }

        /** Of 10 to the power of TEARS cases, those in which so many or fewer are lost. */
        private long casesOfFewLost(Sheet sheet, int piece, int k, int p) {
            Arrays.fill(cases, 0);
            cases[0] = 1;
            for (int c = 0; c < sheet.cells; c++) {
                int tears = Integer.bitCount(sheet.next[c] & piece);
                if (tears > 0 && (sheet.on & ~piece & 1 << c) != 0) {
                    long kept = powerOf(10 - p, tears);
                    addStamp(kept, powerOf(10, tears) - kept);
                }
            }
            long few = 0;
            for (int lost = 0; lost <= k && lost <= CELLS; lost++) {
                few += cases[lost];
            }
            return few;
        }

        private void addStamp(long kept, long lost) {
            for (int n = CELLS; n > 0; n--) {
                cases[n] = cases[n] * kept + cases[n - 1] * lost;
            }
            cases[0] *= kept;
        }
    }

    /** Asks of stamps, by bodies that leave their numbers in the trace. */
    private static final class Asks {
        private static final int ASK_SIZE = 0, ASK_MARK = 1;
        /** Of a kind, the one that it is by being that; 0 is so by itself. */
        private static final int[] ABOVE = {0, 0, 1, 1, 0, 4};
        /** Bodies told for the kinds; 0: none. */
        private static final int[] SIZE_BODIES = {10, 11, 12, 0, 13, 14};
        private static final int[] MARK_BODIES = {20, 21, 24, 22, 23, 0};
        private static final int KINDS_OF_ONE = 3;
        private static final int DEEPEST = 16;
        private static final int TRACED = 16;

        private final int[] trace = new int[TRACED];
        private int left = 0;
        private int cell = 0;
        private int kind = 0;
        private int worth = 0;
        private int over = 0;

        private static boolean isAlso(int kind, int asked) {
            int one = kind;
            for (int i = 0; i < KINDS_OF_ONE; i++) {
                if (one == asked) {
                    return true;
                }
                one = above(one);
            }
            return false;
        }

        private static int above(int kind) {
            return kind >= 0 && kind < KINDS ? ABOVE[kind] : 0;
        }

        private int answer(Sheet sheet, int one, int what) {
            cell = one;
            kind = sheet.kindOf[one];
            worth = sheet.worth[one];
            over = sheet.over;
            left = 0;
            return body(bodyFor(what), 0);
        }

        private int bodyFor(int what) {
            int one = kind;
            int told = bodyTold(what, one);
            for (int i = 1; i < KINDS_OF_ONE && told == 0; i++) {
                one = above(one);
                told = bodyTold(what, one);
            }
            return told;
        }

        private static int bodyTold(int what, int kind) {
            if (kind < 0 || kind >= KINDS) {
                return 0;
            }
            return what == ASK_SIZE ? SIZE_BODIES[kind] : MARK_BODIES[kind];
        }

        private int body(int number, int depth) {
            if (depth > DEEPEST) {
                return 0;
            }
            leave(number);
            int deeper = depth + 1;
            switch (number) {
                case 10: return worth;
                case 11: return body(10, deeper) + body(bodyFor(ASK_MARK), deeper);
                case 12: return -body(11, deeper);
                case 13: return body(10, deeper) - 100;
                case 14: return 2 * body(13, deeper);
                case 20: return cell;
                case 21: return body(20, deeper) + over;
                case 22: return body(21, deeper) - 1000;
                case 23: return body(20, deeper) - body(bodyFor(ASK_SIZE), deeper);
                case 24: return 2 * body(21, deeper);
                default: return 0;
            }
        }

        private void leave(int number) {
            if (left < TRACED) {
                trace[left] = number;
                left++;
            }
        }
    }
}
