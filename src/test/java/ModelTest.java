import java.math.BigInteger;
import java.util.ArrayDeque;
import java.util.ArrayList;
import java.util.Arrays;
import java.util.Deque;
import java.util.List;
import java.util.Random;
import java.util.Set;
import java.util.TreeSet;

/**
 * Runs of drawn calls on StampSheets and on a slow model written straight from the document,
 * by other means: snapshots for undo, all subsets of perforations, all cases of tears, a real
 * tree of classes for the asks.
 */
public final class ModelTest {
    static final int NONE = -1000000, BAD = -1000001, STATE = -1000002, FULL = -1000003;
    static final int RUNS = 400;
    static int wrong = 0;

    // ------------------------------------------------------------------ the model

    static final class State {
        int wide, high, over, torn;
        char[] sort;
        int[] value;
        int[] owner; // -1 on the sheet, -2 spoilt, else the customer
        int[] least, most;

        State copy() {
            State s = new State();
            s.wide = wide;
            s.high = high;
            s.over = over;
            s.torn = torn;
            s.sort = sort.clone();
            s.value = value.clone();
            s.owner = owner.clone();
            s.least = least.clone();
            s.most = most.clone();
            return s;
        }

        int cells() {
            return wide * high;
        }

        boolean next(int a, int b) {
            int dx = Math.abs(a % wide - b % wide);
            int dy = Math.abs(a / wide - b / wide);
            return dx + dy == 1;
        }

        Set<Integer> on() {
            Set<Integer> s = new TreeSet<>();
            for (int i = 0; i < cells(); i++) {
                if (owner[i] == -1) {
                    s.add(i);
                }
            }
            return s;
        }

        int pieceOf(int customer) {
            int bits = 0;
            for (int i = 0; i < cells(); i++) {
                if (owner[i] == customer) {
                    bits |= 1 << i;
                }
            }
            return bits;
        }

        int served() {
            int bits = 0;
            for (int c = 0; c < least.length; c++) {
                if (pieceOf(c) != 0) {
                    bits |= 1 << c;
                }
            }
            return bits;
        }

        boolean air(int i) {
            return sort[i] == 'a' || sort[i] == 'e';
        }

        int pays(Set<Integer> set) {
            int sum = 0;
            for (int i : set) {
                int near = 0;
                for (int j : set) {
                    if (next(i, j) && air(j)) {
                        near++;
                    }
                }
                if (sort[i] == 'o') {
                    sum += value[i];
                } else if (sort[i] == 'u') {
                    sum += value[i] + over;
                } else if (sort[i] == 'd') {
                    sum += (value[i] - value[i] % 2) / 2;
                } else {
                    sum += value[i] * near + (sort[i] == 'e' ? 5 : 0);
                }
            }
            return sum;
        }

        boolean piece(int bits) {
            if (bits <= 0 || bits >= 1 << cells()) {
                return false;
            }
            Set<Integer> set = set(bits);
            return on().containsAll(set) && components(set).size() == 1;
        }

        List<Set<Integer>> components(Set<Integer> set) {
            List<Set<Integer>> all = new ArrayList<>();
            Set<Integer> left = new TreeSet<>(set);
            while (!left.isEmpty()) {
                Set<Integer> part = new TreeSet<>();
                Deque<Integer> queue = new ArrayDeque<>();
                queue.add(left.iterator().next());
                while (!queue.isEmpty()) {
                    int i = queue.remove();
                    if (left.remove(i)) {
                        part.add(i);
                        for (int j : left) {
                            if (next(i, j)) {
                                queue.add(j);
                            }
                        }
                    }
                }
                all.add(part);
            }
            return all;
        }

        List<int[]> tearsOf(int bits) {
            List<int[]> all = new ArrayList<>();
            for (int i : set(bits)) {
                for (int j : on()) {
                    if (next(i, j) && (bits >> j & 1) == 0) {
                        all.add(new int[] {i, j});
                    }
                }
            }
            return all;
        }

        List<Integer> allPieces() {
            List<Integer> all = new ArrayList<>();
            for (int bits = 1; bits < 1 << cells(); bits++) {
                if (piece(bits)) {
                    all.add(bits);
                }
            }
            return all;
        }

        List<Integer> piecesFor(int customer) {
            List<Integer> all = new ArrayList<>();
            for (int bits : allPieces()) {
                int pay = pays(set(bits));
                if (pay >= least[customer] && pay <= most[customer]) {
                    all.add(bits);
                }
            }
            return all;
        }

        int best(int customer) {
            int best = NONE;
            for (int bits : piecesFor(customer)) {
                if (best == NONE) {
                    best = bits;
                    continue;
                }
                int d = tearsOf(bits).size() - tearsOf(best).size();
                if (d == 0) {
                    d = Integer.bitCount(bits) - Integer.bitCount(best);
                }
                if (d < 0) {
                    best = bits;
                }
            }
            return best;
        }

        void sell(int customer, int bits) {
            torn += tearsOf(bits).size();
            for (int i : set(bits)) {
                owner[i] = customer;
            }
        }

        void back(int customer) {
            for (int i = 0; i < cells(); i++) {
                if (owner[i] == customer) {
                    owner[i] = -1;
                }
            }
        }
    }

    static Set<Integer> set(int bits) {
        Set<Integer> s = new TreeSet<>();
        for (int i = 0; i < 31; i++) {
            if ((bits >> i & 1) != 0) {
                s.add(i);
            }
        }
        return s;
    }

    static int bits(Set<Integer> set) {
        int b = 0;
        for (int i : set) {
            b |= 1 << i;
        }
        return b;
    }

    interface Stamp {
        State state();

        int cell();

        List<Integer> trace();

        default int size() {
            trace().add(10);
            return state().value[cell()];
        }

        default int mark() {
            trace().add(20);
            return cell();
        }
    }

    static class Base implements Stamp {
        final State state;
        final int cell;
        final List<Integer> trace;

        Base(State state, int cell, List<Integer> trace) {
            this.state = state;
            this.cell = cell;
            this.trace = trace;
        }

        public State state() {
            return state;
        }

        public int cell() {
            return cell;
        }

        public List<Integer> trace() {
            return trace;
        }
    }

    static class Ordinary extends Base {
        Ordinary(State s, int c, List<Integer> t) {
            super(s, c, t);
        }

        public int size() {
            trace.add(11);
            return super.size() + mark();
        }

        public int mark() {
            trace.add(21);
            return super.mark() + state.over;
        }
    }

    static final class Overprint extends Ordinary {
        Overprint(State s, int c, List<Integer> t) {
            super(s, c, t);
        }

        public int size() {
            trace.add(12);
            return 0 - super.size();
        }

        public int mark() {
            trace.add(24);
            return super.mark() * 2;
        }
    }

    static final class Damaged extends Ordinary {
        Damaged(State s, int c, List<Integer> t) {
            super(s, c, t);
        }

        public int mark() {
            trace.add(22);
            return super.mark() - 1000;
        }
    }

    static class Air extends Base {
        Air(State s, int c, List<Integer> t) {
            super(s, c, t);
        }

        public int size() {
            trace.add(13);
            return super.size() - 100;
        }

        public int mark() {
            trace.add(23);
            return super.mark() - size();
        }
    }

    static final class Express extends Air {
        Express(State s, int c, List<Integer> t) {
            super(s, c, t);
        }

        public int size() {
            trace.add(14);
            return super.size() * 2;
        }
    }

    static final class Model {
        final int[][] rows = new int[8][];
        final int[] lanes = new int[8];
        final StringBuilder tape = new StringBuilder();
        State s;
        final State[] images = new State[2];
        final Deque<State> before = new ArrayDeque<>();
        List<Integer> trace = new ArrayList<>();
        int fault = 0;
        int status = 0;

        int found(int n) {
            status = n;
            return -1000010 - n;
        }

        int fine(int n) {
            status = 0;
            return n;
        }

        boolean isRow(int r) {
            return r >= 0 && r < 8;
        }

        boolean isCell(int c) {
            return s != null && c >= 0 && c < s.cells();
        }

        boolean isCustomer(int c) {
            return s != null && c >= 0 && c < s.least.length;
        }

        void act() {
            before.addLast(s.copy());
            if (before.size() > 24) {
                before.removeFirst();
            }
        }

        int row(int r, int lane, int n) {
            if (!isRow(r) || lane < 0 || lane > 2 || n > 40) {
                return BAD;
            }
            if (n < 0) {
                return found(4);
            }
            rows[r] = new int[n];
            lanes[r] = lane;
            return fine(n);
        }

        int set(int r, int i, int v) {
            if (!isRow(r)) {
                return BAD;
            }
            if (rows[r] == null) {
                return found(1);
            }
            if (i < 0 || i >= rows[r].length) {
                return found(2);
            }
            rows[r][i] = lanes[r] == 0 ? v << 24 >> 24 : lanes[r] == 1 ? v << 16 >> 16 : v;
            return fine(rows[r][i]);
        }

        boolean beyond(int r, int i, int n) {
            return i < 0 || n < 0 || (long) i + n > rows[r].length;
        }

        int copy(int a, int i, int b, int j, int n) {
            if (!isRow(a) || !isRow(b)) {
                return BAD;
            }
            if (rows[a] == null || rows[b] == null) {
                return found(1);
            }
            if (lanes[a] != lanes[b]) {
                return found(5);
            }
            if (beyond(a, i, n) || beyond(b, j, n)) {
                return found(2);
            }
            int[] were = rows[a].clone();
            for (int t = 0; t < n; t++) {
                rows[b][j + t] = were[i + t];
            }
            return fine(n);
        }

        int drop(int r) {
            if (!isRow(r)) {
                return BAD;
            }
            if (rows[r] == null) {
                return found(1);
            }
            int n = rows[r].length;
            rows[r] = null;
            return fine(n);
        }

        int feed(int letter) {
            if (letter < 0 || letter > 255) {
                return BAD;
            }
            if (tape.length() == 120) {
                return FULL;
            }
            tape.append((char) letter);
            return tape.length();
        }

        int sheet() {
            String text = tape.toString();
            tape.setLength(0);
            List<String> tokens = new ArrayList<>();
            List<Integer> places = new ArrayList<>();
            for (int i = 0; i < text.length();) {
                int end = i;
                while (end < text.length() && text.charAt(end) >= '0' && text.charAt(end) <= '9') {
                    end++;
                }
                end = Math.max(end, i + 1);
                tokens.add(text.substring(i, end));
                places.add(i);
                i = end;
            }
            tokens.add("");
            places.add(text.length());
            State read = new State();
            int[] bad = parse(tokens, read);
            if (bad != null) {
                fault = bad[1];
                return -1000100 - places.get(bad[0]);
            }
            s = read;
            before.clear();
            return s.cells();
        }

        /** The index of the first faulty token, and its fault; null: none. */
        int[] parse(List<String> t, State read) {
            String[] law = {"w", "1-6", ",", "high", ",", "0-9", ";"};
            List<Integer> numbers = new ArrayList<>();
            int at = 0;
            for (String want : law) {
                int limit = want.equals("high") ? Math.min(6, 10 / numbers.get(0)) : 0;
                int f = check(t.get(at), want.equals("high") ? "1-" + limit : want, numbers);
                if (f != 0) {
                    return new int[] {at, f};
                }
                at++;
            }
            read.wide = numbers.get(0);
            read.high = numbers.get(1);
            read.over = numbers.get(2);
            int cells = read.wide * read.high;
            read.sort = new char[cells];
            read.value = new int[cells];
            read.owner = new int[cells];
            Arrays.fill(read.owner, -1);
            int stamps = 0;
            List<int[]> customers = new ArrayList<>();
            while (true) {
                String head = t.get(at);
                boolean isStamp = head.length() == 1 && "oudae".contains(head);
                boolean isCustomer = head.equals("n");
                if (head.isEmpty()) {
                    if (stamps < cells) {
                        return new int[] {at, 1};
                    }
                    break;
                }
                if (isStamp && !customers.isEmpty() || isCustomer && stamps < cells || !isStamp && !isCustomer) {
                    return new int[] {at, 1};
                }
                if (isStamp && stamps == cells || isCustomer && customers.size() == 5) {
                    return new int[] {at, 3};
                }
                at++;
                numbers.clear();
                String[] wants = isStamp ? new String[] {"0-9", ";"} : new String[] {"0-99", ",", "most", ";"};
                for (String want : wants) {
                    int f = check(t.get(at), want.equals("most") ? numbers.get(0) + "-99" : want, numbers);
                    if (f != 0) {
                        return new int[] {at, f};
                    }
                    at++;
                }
                if (isStamp) {
                    read.sort[stamps] = head.charAt(0);
                    read.value[stamps] = numbers.get(0);
                    stamps++;
                } else {
                    customers.add(new int[] {numbers.get(0), numbers.get(1)});
                }
            }
            read.least = customers.stream().mapToInt(c -> c[0]).toArray();
            read.most = customers.stream().mapToInt(c -> c[1]).toArray();
            return null;
        }

        int check(String token, String want, List<Integer> numbers) {
            if (!want.contains("-")) {
                return token.equals(want) ? 0 : 1;
            }
            if (!token.matches("[0-9]{1,2}")) {
                return 1;
            }
            int v = Integer.parseInt(token);
            String[] ends = want.split("-");
            if (v < Integer.parseInt(ends[0]) || v > Integer.parseInt(ends[1])) {
                return 2;
            }
            numbers.add(v);
            return 0;
        }

        int undo() {
            if (before.isEmpty()) {
                return STATE;
            }
            s = before.removeLast();
            return before.size();
        }

        int serve(int c, int p) {
            if (!isCustomer(c) || !s.piece(p)) {
                return BAD;
            }
            int pay = s.pays(ModelTest.set(p));
            if (s.pieceOf(c) != 0 || pay < s.least[c] || pay > s.most[c]) {
                return STATE;
            }
            act();
            int tears = s.tearsOf(p).size();
            s.sell(c, p);
            return tears;
        }

        int bringBack(int c) {
            if (!isCustomer(c)) {
                return BAD;
            }
            if (s.pieceOf(c) == 0) {
                return STATE;
            }
            act();
            int p = s.pieceOf(c);
            s.back(c);
            return s.pays(ModelTest.set(p));
        }

        int spoil(int c) {
            if (!isCell(c)) {
                return BAD;
            }
            if (s.owner[c] != -1) {
                return STATE;
            }
            act();
            s.owner[c] = -2;
            return s.on().size();
        }

        int value(int c, int v) {
            if (!isCell(c) || v < 0 || v > 9) {
                return BAD;
            }
            act();
            int was = s.value[c];
            s.value[c] = v;
            return was;
        }

        int over(int v) {
            if (s == null) {
                return STATE;
            }
            if (v < 0 || v > 9) {
                return BAD;
            }
            act();
            int was = s.over;
            s.over = v;
            return was;
        }

        int cell(int c, int what) {
            if (!isCell(c) || what < 0 || what > 3) {
                return BAD;
            }
            if (what == 0) {
                return s.value[c];
            }
            if (what == 1) {
                return s.owner[c] == -1 ? 0 : s.owner[c] == -2 ? 2 : 1;
            }
            if (what == 2) {
                int b = 0;
                for (int i : s.on()) {
                    b |= s.next(i, c) ? 1 << i : 0;
                }
                return b;
            }
            return s.owner[c] >= 0 ? s.owner[c] : NONE;
        }

        int customer(int c, int what) {
            if (!isCustomer(c) || what < 0 || what > 2) {
                return BAD;
            }
            return what == 0 ? s.least[c] : what == 1 ? s.most[c] : s.pieceOf(c);
        }

        int stand(int what) {
            if (s == null) {
                return STATE;
            }
            if (what < 0 || what > 4) {
                return BAD;
            }
            int spoilt = 0;
            for (int i = 0; i < s.cells(); i++) {
                spoilt |= s.owner[i] == -2 ? 1 << i : 0;
            }
            return new int[] {bits(s.on()), s.served(), s.torn, s.over, spoilt}[what];
        }

        int piece(int p, int what) {
            if (s == null || !s.piece(p) || what < 0 || what > 3) {
                return BAD;
            }
            if (what == 0) {
                return s.pays(ModelTest.set(p));
            }
            if (what == 1) {
                return s.tearsOf(p).size();
            }
            if (what == 2) {
                return ModelTest.set(p).size();
            }
            Set<Integer> rest = s.on();
            rest.removeAll(ModelTest.set(p));
            return s.components(rest).size();
        }

        int parts(int k) {
            if (s == null) {
                return STATE;
            }
            if (k < -1) {
                return BAD;
            }
            List<Set<Integer>> all = s.components(s.on());
            return k == -1 ? all.size() : k < all.size() ? bits(all.get(k)) : NONE;
        }

        int pieces(int n, int what) {
            if (s == null) {
                return STATE;
            }
            if (n < 1 || n > 10 || what < 0 || what > 2) {
                return BAD;
            }
            int many = 0;
            for (int p : s.allPieces()) {
                Set<Integer> rows = new TreeSet<>();
                Set<Integer> columns = new TreeSet<>();
                for (int i : ModelTest.set(p)) {
                    rows.add(i / s.wide);
                    columns.add(i % s.wide);
                }
                boolean ofN = Integer.bitCount(p) == n;
                boolean straight = rows.size() == 1 || columns.size() == 1;
                many += what == 0 || what == 1 && ofN || what == 2 && ofN && straight ? 1 : 0;
            }
            return many;
        }

        int sums(int what) {
            if (s == null) {
                return STATE;
            }
            if (what < 0 || what > 2) {
                return BAD;
            }
            TreeSet<Integer> all = new TreeSet<>();
            for (int p : s.allPieces()) {
                all.add(s.pays(ModelTest.set(p)));
            }
            if (what == 2) {
                return all.isEmpty() ? 0 : all.last();
            }
            if (what == 0) {
                return all.headSet(100).size();
            }
            for (int sum = 0; sum < 100; sum++) {
                if (!all.contains(sum)) {
                    return sum;
                }
            }
            return NONE;
        }

        int best(int c, int what) {
            if (!isCustomer(c) || what < 0 || what > 1) {
                return BAD;
            }
            if (s.pieceOf(c) != 0) {
                return STATE;
            }
            int best = s.best(c);
            return best == NONE || what == 0 ? best : s.tearsOf(best).size();
        }

        int ways(int c) {
            if (!isCustomer(c)) {
                return BAD;
            }
            return s.pieceOf(c) != 0 ? STATE : s.piecesFor(c).size();
        }

        int thrift(int c, int what) {
            if (!isCustomer(c) || what < 0 || what > 1) {
                return BAD;
            }
            if (s.pieceOf(c) != 0) {
                return STATE;
            }
            long first = Long.MAX_VALUE;
            for (int p : s.piecesFor(c)) {
                first = Math.min(first, s.pays(ModelTest.set(p)) * 10000L + p);
            }
            return first == Long.MAX_VALUE ? NONE : (int) (what == 0 ? first % 10000 : first / 10000);
        }

        int serving(int k) {
            if (s == null) {
                return STATE;
            }
            if (k < -2 || k >= s.least.length) {
                return BAD;
            }
            for (int many = 5; many >= 0; many--) {
                for (int who = 0; who < 32; who++) {
                    if (Integer.bitCount(who) == many && who >> s.least.length == 0 && (who & s.served()) == 0) {
                        int[] row = new int[5];
                        List<List<Integer>> choices = new ArrayList<>();
                        for (int c : ModelTest.set(who)) {
                            choices.add(s.piecesFor(c));
                        }
                        List<Integer> chosen = firstRow(choices, 0, 0);
                        if (chosen != null) {
                            int at = chosen.size();
                            for (int c : ModelTest.set(who)) {
                                row[c] = chosen.get(--at);
                            }
                            return k == -1 ? many : k == -2 ? who : row[k];
                        }
                    }
                }
            }
            throw new IllegalStateException();
        }

        /** Chosen pieces, the last customer's first; null: there is no such row. */
        List<Integer> firstRow(List<List<Integer>> choices, int at, int used) {
            if (at == choices.size()) {
                return new ArrayList<>();
            }
            for (int p : choices.get(at)) {
                if ((p & used) == 0) {
                    List<Integer> rest = firstRow(choices, at + 1, used | p);
                    if (rest != null) {
                        rest.add(p);
                        return rest;
                    }
                }
            }
            return null;
        }

        int couples() {
            return s == null ? STATE : couplings(s.on());
        }

        int couplings(Set<Integer> left) {
            if (left.isEmpty()) {
                return 1;
            }
            int first = left.iterator().next();
            int n = 0;
            for (int other : left) {
                if (s.next(first, other)) {
                    Set<Integer> rest = new TreeSet<>(left);
                    rest.remove(first);
                    rest.remove(other);
                    n += couplings(rest);
                }
            }
            return n;
        }

        int parting(int a, int b, int what) {
            if (!isCell(a) || !isCell(b) || a == b || what < 0 || what > 1) {
                return BAD;
            }
            if (s.owner[a] != -1 || s.owner[b] != -1) {
                return STATE;
            }
            List<int[]> edges = new ArrayList<>();
            for (int i : s.on()) {
                for (int j : s.on()) {
                    if (i < j && s.next(i, j)) {
                        edges.add(new int[] {i, j});
                    }
                }
            }
            int fewest = 99;
            int side = 0;
            for (int cut = 0; cut < 1 << edges.size(); cut++) {
                int many = Integer.bitCount(cut);
                if (many <= fewest) {
                    int reach = reach(a, edges, cut);
                    if ((reach >> b & 1) == 0 && (many < fewest || reach < side)) {
                        fewest = many;
                        side = reach;
                    }
                }
            }
            return what == 0 ? fewest : side;
        }

        int reach(int a, List<int[]> edges, int cut) {
            int reach = 1 << a;
            for (boolean more = true; more;) {
                more = false;
                for (int e = 0; e < edges.size(); e++) {
                    int both = 1 << edges.get(e)[0] | 1 << edges.get(e)[1];
                    if ((cut >> e & 1) == 0 && (reach & both) != 0 && (reach & both) != both) {
                        reach |= both;
                        more = true;
                    }
                }
            }
            return reach;
        }

        int way(int a, int b, int what) {
            if (!isCell(a) || !isCell(b) || a == b || what < 0 || what > 1) {
                return BAD;
            }
            if (s.owner[a] != -1 || s.owner[b] != -1) {
                return STATE;
            }
            int n = s.cells();
            int[][] far = new int[n][n];
            for (int i = 0; i < n; i++) {
                for (int j = 0; j < n; j++) {
                    boolean on = s.owner[i] == -1 && s.owner[j] == -1;
                    far[i][j] = i == j ? 0 : on && s.next(i, j) ? 1 : 1000;
                }
            }
            for (int k = 0; k < n; k++) {
                for (int i = 0; i < n; i++) {
                    for (int j = 0; j < n; j++) {
                        far[i][j] = Math.min(far[i][j], far[i][k] + far[k][j]);
                    }
                }
            }
            if (far[a][b] >= 1000) {
                return NONE;
            }
            if (what == 0) {
                return far[a][b];
            }
            for (int i = 0; i < n; i++) {
                if (far[a][i] == 1 && 1 + far[i][b] == far[a][b]) {
                    return i;
                }
            }
            throw new IllegalStateException();
        }

        int lone() {
            if (s == null) {
                return STATE;
            }
            int lone = 0;
            for (int i : s.on()) {
                Set<Integer> rest = s.on();
                rest.remove(i);
                lone |= s.components(rest).size() > s.components(s.on()).size() ? 1 << i : 0;
            }
            return lone;
        }

        int findTold(int r, int i, int o, int j, int n) {
            if (rows[r] == null) {
                return 1;
            }
            if (beyond(r, i, n)) {
                return 2;
            }
            Set<Integer> seen = new TreeSet<>();
            for (int t = 0; t < n; t++) {
                if (!isCell(rows[r][i + t]) || !seen.add(rows[r][i + t])) {
                    return 3;
                }
            }
            if (rows[o] == null) {
                return 1;
            }
            return beyond(o, j, n) ? 2 : 0;
        }

        boolean so(State t, int r, int i, int o, int j, int n) {
            Set<Integer> told = new TreeSet<>();
            boolean so = true;
            for (int k = 0; k < n; k++) {
                told.add(rows[r][i + k]);
                so &= t.pays(told) == rows[o][j + k];
            }
            return so;
        }

        int who(int c, int which, int r, int i, int o, int j, int n) {
            if (!isCell(c) || which < 0 || which > 1 || !isRow(r) || !isRow(o) || n < 1 || n > 10) {
                return BAD;
            }
            int f = findTold(r, i, o, j, n);
            if (f != 0) {
                return found(f);
            }
            int b = 0;
            for (int v = which == 0 ? 1 : 0; v <= (which == 0 ? 5 : 9); v++) {
                State t = s.copy();
                if (which == 0) {
                    t.sort[c] = " oudae".charAt(v);
                } else {
                    t.value[c] = v;
                }
                b |= so(t, r, i, o, j, n) ? 1 << v : 0;
            }
            return fine(b);
        }

        int fits(int which, int r, int i, int o, int j, int n) {
            if (s == null) {
                return STATE;
            }
            if (which < 0 || which > 2 || !isRow(r) || !isRow(o) || n < 1 || n > 10) {
                return BAD;
            }
            int f = findTold(r, i, o, j, n);
            if (f != 0) {
                return found(f);
            }
            if (which == 0) {
                int b = 0;
                for (int v = 0; v <= 9; v++) {
                    State t = s.copy();
                    t.over = v;
                    b |= so(t, r, i, o, j, n) ? 1 << v : 0;
                }
                return fine(b);
            }
            List<Integer> pairs = new ArrayList<>();
            for (int x = 0; x < s.cells(); x++) {
                for (int y = x + 1; y < s.cells(); y++) {
                    State t = s.copy();
                    t.sort[x] = s.sort[y];
                    t.sort[y] = s.sort[x];
                    t.value[x] = s.value[y];
                    t.value[y] = s.value[x];
                    if (so(t, r, i, o, j, n)) {
                        pairs.add(10 * x + y);
                    }
                }
            }
            return fine(which == 1 ? pairs.size() : pairs.isEmpty() ? NONE : pairs.get(0));
        }

        long wrong(int p, int k, int ten, int what) {
            if (s == null || !s.piece(p) || k < 0 || k > 10 || ten < 0 || ten > 10 || what < 0 || what > 1) {
                return BAD;
            }
            List<int[]> tears = s.tearsOf(p);
            BigInteger above = BigInteger.ZERO;
            for (int bad = 0; bad < 1 << tears.size(); bad++) {
                Set<Integer> lost = new TreeSet<>();
                BigInteger cases = BigInteger.ONE;
                for (int t = 0; t < tears.size(); t++) {
                    boolean goesWrong = (bad >> t & 1) != 0;
                    cases = cases.multiply(BigInteger.valueOf(goesWrong ? ten : 10 - ten));
                    if (goesWrong) {
                        lost.add(tears.get(t)[1]);
                    }
                }
                if (lost.size() <= k) {
                    above = above.add(cases);
                }
            }
            BigInteger below = BigInteger.TEN.pow(tears.size());
            BigInteger common = above.gcd(below);
            return (what == 0 ? above : below).divide(common).longValueExact();
        }

        int drawn(int n, int seed, int what) {
            if (s == null) {
                return STATE;
            }
            if (n < 0 || n > 60 || seed < 1 || seed > 999999 || what < 0 || what > 1) {
                return BAD;
            }
            State t = s.copy();
            BigInteger x = BigInteger.valueOf(seed);
            for (int day = 0; day < n; day++) {
                x = x.multiply(BigInteger.valueOf(16807)).mod(BigInteger.valueOf(Integer.MAX_VALUE));
                int v = x.intValueExact();
                if (t.least.length == 0 || v % 3 == 0) {
                    int c = v % t.cells();
                    t.owner[c] = t.owner[c] == -1 ? -2 : t.owner[c];
                    continue;
                }
                int c = v % t.least.length;
                if (t.pieceOf(c) != 0) {
                    t.back(c);
                } else if (t.best(c) != NONE) {
                    t.sell(c, t.best(c));
                }
            }
            return what == 0 ? t.served() : t.torn;
        }

        int image(int k) {
            if (k < 0 || k > 1) {
                return BAD;
            }
            if (s == null) {
                return STATE;
            }
            images[k] = s.copy();
            return 1;
        }

        int restore(int k) {
            if (k < 0 || k > 1) {
                return BAD;
            }
            if (images[k] == null) {
                return STATE;
            }
            s = images[k].copy();
            before.clear();
            return 1;
        }

        int kind(int c) {
            return isCell(c) ? " oudae".indexOf(s.sort[c]) : BAD;
        }

        Stamp stamp(int c, List<Integer> t) {
            switch (s.sort[c]) {
                case 'o': return new Ordinary(s, c, t);
                case 'u': return new Overprint(s, c, t);
                case 'd': return new Damaged(s, c, t);
                case 'a': return new Air(s, c, t);
                default: return new Express(s, c, t);
            }
        }

        int as(int c, int k) {
            if (!isCell(c) || k < 0 || k > 5) {
                return BAD;
            }
            Class<?>[] kinds = {Stamp.class, Ordinary.class, Overprint.class, Damaged.class, Air.class, Express.class};
            return kinds[k].isInstance(stamp(c, null)) ? fine(c) : found(3);
        }

        int ask(int c, int what) {
            if (!isCell(c) || what < 0 || what > 1) {
                return BAD;
            }
            trace = new ArrayList<>();
            Stamp one = stamp(c, trace);
            return what == 0 ? one.size() : one.mark();
        }

        int trace(int i) {
            return i >= 0 && i < Math.min(16, trace.size()) ? trace.get(i) : NONE;
        }

        int count(int what) {
            if (what < 0 || what > 7) {
                return BAD;
            }
            if (what == 0) {
                int n = 0;
                for (int[] r : rows) {
                    n += r != null ? 1 : 0;
                }
                return n;
            }
            if (what == 6) {
                return before.size();
            }
            if (what == 7) {
                return tape.length();
            }
            if (s == null) {
                return 0;
            }
            return new int[] {0, s.cells(), s.least.length, s.on().size(), s.served(), s.torn}[what];
        }
    }

    // ------------------------------------------------------------------ the runs

    static final class Run {
        final int number;
        final Random r;
        final StampSheets x = new StampSheets();
        final Model m = new Model();
        final StringBuilder log = new StringBuilder();
        int calls = 0;
        boolean broken = false;

        Run(int number) {
            this.number = number;
            this.r = new Random(number * 7919L + 13);
        }

        void due(String call, long got, long want) {
            calls++;
            log.append(call).append(" = ").append(got).append('\n');
            if (got != want && !broken) {
                broken = true;
                wrong++;
                System.out.println("run " + number + ", call " + calls + ": " + call + " answered " + got
                        + ", due is " + want + "\n" + log);
            }
        }

        /** Mostly from 0 to n - 1, now and then beyond. */
        int some(int n) {
            int dice = r.nextInt(40);
            if (dice == 0) {
                return -1;
            }
            if (dice == 1) {
                return n;
            }
            if (dice == 2) {
                int[] far = {Integer.MIN_VALUE, Integer.MAX_VALUE, -2, n + 1, 1024, 1 << 20};
                return far[r.nextInt(far.length)];
            }
            return n <= 0 ? 0 : r.nextInt(n);
        }

        void type(String text) {
            for (int i = 0; i < text.length(); i++) {
                due("feed(" + (int) text.charAt(i) + ")", x.feed(text.charAt(i)), m.feed(text.charAt(i)));
            }
        }

        String text() {
            int wide = 1 + r.nextInt(6);
            int high = 1 + r.nextInt(Math.min(6, 10 / wide));
            StringBuilder b = new StringBuilder("w");
            b.append(number(wide)).append(',').append(number(high)).append(',').append(r.nextInt(10)).append(';');
            String sorts = r.nextInt(3) == 0 ? "ae" : "oudae";
            for (int i = 0; i < wide * high; i++) {
                b.append(sorts.charAt(r.nextInt(sorts.length()))).append(number(r.nextInt(10))).append(';');
            }
            int customers = r.nextInt(6);
            for (int i = 0; i < customers; i++) {
                int least = r.nextInt(r.nextInt(4) == 0 ? 100 : 20);
                int most = Math.min(99, least + r.nextInt(r.nextInt(3) == 0 ? 60 : 8));
                b.append('n').append(least).append(',').append(most).append(';');
            }
            return b.toString();
        }

        String number(int v) {
            return r.nextInt(12) == 0 ? "0" + v : "" + v;
        }

        String spoiled(String text) {
            StringBuilder b = new StringBuilder(text);
            int at = r.nextInt(b.length());
            String signs = "wnoudae0123456789,;;,x A\u00e9";
            char sign = signs.charAt(r.nextInt(signs.length()));
            switch (r.nextInt(4)) {
                case 0: b.setCharAt(at, sign); break;
                case 1: b.insert(at, sign); break;
                case 2: b.deleteCharAt(at); break;
                default: b.setLength(at); break;
            }
            return b.toString();
        }

        void readSheet(boolean faulty) {
            String text = text();
            type(faulty ? spoiled(text) : text);
            due("sheet()", x.sheet(), m.sheet());
            due("fault()", x.fault(), m.fault);
        }

        int cells() {
            return m.s == null ? 3 : m.s.cells();
        }

        int customers() {
            return m.s == null ? 2 : m.s.least.length;
        }

        int somePiece() {
            if (m.s == null || r.nextInt(12) == 0) {
                return some(1 << cells());
            }
            List<Integer> all = m.s.allPieces();
            return all.isEmpty() ? 1 : all.get(r.nextInt(all.size()));
        }

        void play() {
            for (int i = 0; i < 6; i++) {
                step();
            }
            readSheet(r.nextInt(5) == 0);
            while (calls < 500 && !broken) {
                step();
            }
        }

        void step() {
            switch (r.nextInt(30)) {
                case 0: case 1: case 2: case 3: rowCall(); break;
                case 4: case 5: case 6: case 7: case 8: act(); break;
                case 9: case 10: case 11: tellRows(); break;
                case 12: case 13: images(); break;
                case 14: case 15: case 16: asks(); break;
                case 17: if (r.nextInt(8) == 0 && calls < 380) { readSheet(r.nextInt(3) > 0); } break;
                case 18: case 19: case 20: case 21: looks(); break;
                case 22: case 23: searches(); break;
                case 24: case 25: case 26: customersCalls(); break;
                default: geometry(); break;
            }
            due("status()", x.status(), m.status);
        }

        void rowCall() {
            int a = some(3);
            int b = some(3);
            int i = some(8);
            int j = some(8);
            int n = some(12);
            switch (r.nextInt(5)) {
                case 0: { int l = some(3); due("row(" + a + ", " + l + ", " + n + ")", x.row(a, l, n), m.row(a, l, n)); break; }
                case 1: case 2: {
                    int v = r.nextInt(3) == 0 ? r.nextInt() : r.nextInt(400) - 200;
                    due("set(" + a + ", " + i + ", " + v + ")", x.set(a, i, v), m.set(a, i, v));
                    break;
                }
                case 3: due("copy(" + a + ", " + i + ", " + b + ", " + j + ", " + n + ")", x.copy(a, i, b, j, n), m.copy(a, i, b, j, n)); break;
                default: if (r.nextInt(3) == 0) { due("drop(" + a + ")", x.drop(a), m.drop(a)); }
            }
        }

        void act() {
            int c = some(customers());
            int cell = some(cells());
            int v = some(10);
            switch (r.nextInt(10)) {
                case 0: case 1: case 2: {
                    List<Integer> fit = m.isCustomer(c) ? m.s.piecesFor(c) : new ArrayList<>();
                    int p = fit.isEmpty() || r.nextInt(4) == 0 ? somePiece() : fit.get(r.nextInt(fit.size()));
                    due("serve(" + c + ", " + p + ")", x.serve(c, p), m.serve(c, p));
                    break;
                }
                case 3: case 4: due("bringBack(" + c + ")", x.bringBack(c), m.bringBack(c)); break;
                case 5: if (r.nextInt(2) == 0) { due("spoil(" + cell + ")", x.spoil(cell), m.spoil(cell)); } break;
                case 6: case 7: due("value(" + cell + ", " + v + ")", x.value(cell, v), m.value(cell, v)); break;
                case 8: due("over(" + v + ")", x.over(v), m.over(v)); break;
                default:
                    int many = r.nextInt(8) == 0 ? 30 : 3;
                    for (int i = 0; i < many && calls < 500; i++) {
                        due("undo()", x.undo(), m.undo());
                    }
            }
        }

        void tellRows() {
            int a = r.nextInt(2);
            int b = r.nextInt(5) == 0 ? a : 2;
            if (r.nextInt(3) > 0 && m.s != null) {
                int n = 1 + r.nextInt(Math.min(3, cells()));
                Set<Integer> told = new TreeSet<>();
                due("row(a)", x.row(a, 0, n), m.row(a, 0, n));
                due("row(b)", x.row(2, 2, n), m.row(2, 2, n));
                State t = m.s.copy();
                int swap = r.nextInt(cells());
                t.value[swap] = r.nextInt(10);
                for (int k = 0; k < n; k++) {
                    int c = r.nextInt(cells());
                    told.add(c);
                    int pay = t.pays(told) + (r.nextInt(9) == 0 ? 1 : 0);
                    due("set(" + a + ", " + k + ", " + c + ")", x.set(a, k, c), m.set(a, k, c));
                    due("set(2, " + k + ", " + pay + ")", x.set(2, k, pay), m.set(2, k, pay));
                }
            }
            int n = r.nextInt(3) == 0 ? some(11) : 1 + r.nextInt(3);
            int i = r.nextInt(3) == 0 ? some(3) : 0;
            int j = r.nextInt(3) == 0 ? some(3) : 0;
            int rowA = r.nextInt(20) == 0 ? some(8) : a;
            int rowB = r.nextInt(20) == 0 ? some(8) : b;
            String rest = rowA + ", " + i + ", " + rowB + ", " + j + ", " + n + ")";
            for (int k = 0; k < 3; k++) {
                int c = some(cells());
                int which = some(2);
                due("who(" + c + ", " + which + ", " + rest, x.who(c, which, rowA, i, rowB, j, n), m.who(c, which, rowA, i, rowB, j, n));
                int f = some(3);
                due("fits(" + f + ", " + rest, x.fits(f, rowA, i, rowB, j, n), m.fits(f, rowA, i, rowB, j, n));
            }
        }

        void images() {
            int k = some(2);
            if (r.nextInt(3) > 0) {
                due("image(" + k + ")", x.image(k), m.image(k));
            } else if (r.nextInt(3) == 0) {
                due("restore(" + k + ")", x.restore(k), m.restore(k));
            }
        }

        void asks() {
            int c = some(cells());
            int k = some(6);
            int what = some(2);
            due("kind(" + c + ")", x.kind(c), m.kind(c));
            due("as(" + c + ", " + k + ")", x.as(c, k), m.as(c, k));
            due("ask(" + c + ", " + what + ")", x.ask(c, what), m.ask(c, what));
            for (int i = -1; i < 8; i++) {
                due("trace(" + i + ")", x.trace(i), m.trace(i));
            }
        }

        void looks() {
            int c = some(cells());
            int u = some(customers());
            for (int what = -1; what < 9; what++) {
                switch (r.nextInt(8)) {
                    case 0: due("cell(" + c + ", " + what + ")", x.cell(c, what), m.cell(c, what)); break;
                    case 1: due("customer(" + u + ", " + what + ")", x.customer(u, what), m.customer(u, what)); break;
                    case 2: due("stand(" + what + ")", x.stand(what), m.stand(what)); break;
                    case 3: due("count(" + what + ")", x.count(what), m.count(what)); break;
                    default: break;
                }
            }
        }

        void searches() {
            int k = some(12);
            int p10 = some(11);
            int what = some(2);
            int p = somePiece();
            String call = "wrong(" + p + ", " + k + ", " + p10 + ", ";
            due(call + "0)", x.wrong(p, k, p10, 0), m.wrong(p, k, p10, 0));
            due(call + what + ")", x.wrong(p, k, p10, what), m.wrong(p, k, p10, what));
            int n = r.nextInt(2) == 0 ? some(61) : some(8);
            int seed = 1 + some(999999);
            if (r.nextInt(4) == 0) {
                due("drawn(" + n + ", " + seed + ", 0)", x.drawn(n, seed, 0), m.drawn(n, seed, 0));
                due("drawn(" + n + ", " + seed + ", " + what + ")", x.drawn(n, seed, what), m.drawn(n, seed, what));
                due("drawn(" + n + ", " + seed + ", 1)", x.drawn(n, seed, 1), m.drawn(n, seed, 1));
            }
        }

        void customersCalls() {
            int c = some(customers());
            int what = some(2);
            int k = some(customers() + 2) - 2;
            due("best(" + c + ", " + what + ")", x.best(c, what), m.best(c, what));
            due("ways(" + c + ")", x.ways(c), m.ways(c));
            due("thrift(" + c + ", " + what + ")", x.thrift(c, what), m.thrift(c, what));
            due("serving(" + k + ")", x.serving(k), m.serving(k));
        }

        void geometry() {
            int a = some(cells());
            int b = some(cells());
            int what = some(2);
            int n = 1 + some(10);
            int of = some(3);
            int p = somePiece();
            int q = some(4);
            int k = some(4) - 1;
            due("piece(" + p + ", " + q + ")", x.piece(p, q), m.piece(p, q));
            due("parts(" + k + ")", x.parts(k), m.parts(k));
            switch (r.nextInt(4)) {
                case 0: due("pieces(" + n + ", " + of + ")", x.pieces(n, of), m.pieces(n, of)); break;
                case 1: due("sums(" + of + ")", x.sums(of), m.sums(of)); break;
                case 2:
                    due("couples()", x.couples(), m.couples());
                    due("lone()", x.lone(), m.lone());
                    break;
                default:
                    due("parting(" + a + ", " + b + ", " + what + ")", x.parting(a, b, what), m.parting(a, b, what));
                    due("way(" + a + ", " + b + ", " + what + ")", x.way(a, b, what), m.way(a, b, what));
            }
        }
    }

    public static void main(String[] args) {
        int calls = 0;
        for (int i = 0; i < RUNS && wrong < 5; i++) {
            Run run = new Run(i);
            run.play();
            calls += run.calls;
        }
        System.out.println(wrong == 0 ? calls + " drawn calls are as due" : wrong + " runs are not as due");
        if (wrong != 0) {
            System.exit(1);
        }
    }
}
