import java.math.BigDecimal;
import java.util.ArrayList;
import java.util.Arrays;
import java.util.Comparator;
import java.util.List;

/** The document told a second time, as slowly and plainly as can be; ModelTest compares both. */
final class Model {
    static final int NONE = -1, BAD = -2, STATE = -3, FULL = -4, NO_ANSWER = -99999;
    static final long NO = -4611686018427387904L;

    // ---- measures: a class a kind

    static class Square {
        final State s;
        Square(State s) { this.s = s; }
        int kind() { return 0; }
        long term(int i, long d) { return d * d; }
        long join(long a, long b) { return a + b; }
        long whole(long a) { return a; }
        float termF(int i, int d) { return times(whole(d), whole(d)); }
        float joinF(float a, float b) { return plus(a, b); }
        float wholeF(float a) { return a; }
        final float whole(int n) { return rounded(BigDecimal.valueOf(n)); }
        final long tell(int[] d) { return whole(join(join(term(0, d[0]), term(1, d[1])), term(2, d[2]))); }
        final float low(int[] d) {
            float told = wholeF(joinF(joinF(termF(0, d[0]), termF(1, d[1])), termF(2, d[2])));
            return rounded(new BigDecimal(told).multiply(new BigDecimal("0.99999904632568359375")));
        }
    }
    static class Weighed extends Square {
        Weighed(State s) { super(s); }
        int kind() { return 1; }
        long term(int i, long d) { return super.term(i, d) * s.weights[i]; }
        float termF(int i, int d) { return times(super.termF(i, d), whole(s.weights[i])); }
    }
    static class Block extends Square {
        Block(State s) { super(s); }
        int kind() { return 2; }
        long term(int i, long d) { return d; }
        long whole(long a) { return 4 * a; }
        float termF(int i, int d) { return whole(d); }
        float wholeF(float a) { return times(4f, a); }
    }
    static class Dead extends Weighed {
        Dead(State s) { super(s); }
        int kind() { return 3; }
        long term(int i, long d) { return super.term(i, d > s.slack ? d - s.slack : 0); }
        float termF(int i, int d) { return super.termF(i, d > s.slack ? d - s.slack : 0); }
    }
    static class Most extends Block {
        Most(State s) { super(s); }
        int kind() { return 4; }
        long join(long a, long b) { return a > b ? a : b; }
        long whole(long a) { return super.whole(a) + 1; }
        float joinF(float a, float b) { return a > b ? a : b; }
        float wholeF(float a) { return plus(super.wholeF(a), 1f); }
    }
    static final class Capped extends Dead {
        Capped(State s) { super(s); }
        int kind() { return 5; }
        long whole(long a) { return a > s.cap ? s.cap : a; }
        float wholeF(float a) { return a > whole(s.cap) ? whole(s.cap) : a; }
    }
    static float rounded(BigDecimal exact) { return Float.parseFloat(exact.toString()); }
    static float times(float a, float b) { return rounded(new BigDecimal(a).multiply(new BigDecimal(b))); }
    static float plus(float a, float b) { return rounded(new BigDecimal(a).add(new BigDecimal(b))); }
    static float highOf(int n) {
        return rounded(new BigDecimal(rounded(BigDecimal.valueOf(n))).multiply(new BigDecimal("1.00000095367431640625")));
    }

    // ---- state

    static final class Cell {
        int[] centre;
        int[] least = null, greatest = null;
        Cell(int... centre) { this.centre = centre; }
        Cell copy() {
            Cell c = new Cell(centre.clone());
            c.least = least == null ? null : least.clone();
            c.greatest = greatest == null ? null : greatest.clone();
            return c;
        }
    }
    static final class Vec {
        int[] place;
        int tag, number;
        int cell = NONE;
        boolean dropped = false;
        Vec copy() {
            Vec v = new Vec();
            v.place = place.clone(); v.tag = tag; v.number = number; v.cell = cell; v.dropped = dropped;
            return v;
        }
    }
    static final class State {
        int step = 16, slack = 0, cap = 999999, kind = 0, rule = 0;
        int[] weights = {1, 1, 1}, query = {0, 0, 0};
        List<Cell> cells = new ArrayList<>();
        List<Vec> vecs = new ArrayList<>();
        State copy() {
            State s = new State();
            s.step = step; s.slack = slack; s.cap = cap; s.kind = kind; s.rule = rule;
            s.weights = weights.clone(); s.query = query.clone();
            for (Cell c : cells) s.cells.add(c.copy());
            for (Vec v : vecs) s.vecs.add(v.copy());
            return s;
        }
        Square measure() {
            switch (kind) {
                case 0: return new Square(this);
                case 1: return new Weighed(this);
                case 2: return new Block(this);
                case 3: return new Dead(this);
                case 4: return new Most(this);
                default: return new Capped(this);
            }
        }
        int apart(int[] a, int[] b) {
            int[] d = new int[3];
            for (int i = 0; i < 3; i++) d[i] = Math.abs(a[i] - b[i]);
            return Math.toIntExact(measure().tell(d));
        }
        int nearestCell(int[] place) {
            int best = 0;
            for (int c = 1; c < cells.size(); c++) {
                if (squares(place, cells.get(c).centre) < squares(place, cells.get(best).centre)) best = c;
            }
            return best;
        }
        void comes(Vec v, int cell) {
            v.cell = cell;
            Cell c = cells.get(cell);
            if (c.least == null) {
                c.least = v.place.clone();
                c.greatest = v.place.clone();
                return;
            }
            for (int i = 0; i < 3; i++) {
                if (v.place[i] < c.least[i]) c.least[i] = v.place[i];
                if (v.place[i] > c.greatest[i]) c.greatest[i] = v.place[i];
            }
        }
        List<Vec> there() {
            List<Vec> out = new ArrayList<>();
            for (Vec v : vecs) if (!v.dropped) out.add(v);
            return out;
        }
        int tidy(int cell) {
            int gone = 0;
            for (Vec v : vecs) if (v.cell == cell && v.dropped) { v.cell = NONE; gone++; }
            cells.get(cell).least = null;
            cells.get(cell).greatest = null;
            for (Vec v : vecs) if (v.cell == cell) comes(v, cell);
            return gone;
        }
        int centre() {
            int changed = 0;
            for (Vec v : vecs) if (v.dropped) v.cell = NONE;
            for (int c = 0; c < cells.size(); c++) {
                long[] sum = new long[3];
                int n = 0;
                for (Vec v : vecs) if (v.cell == c) { n++; for (int i = 0; i < 3; i++) sum[i] += v.place[i]; }
                if (n > 0) {
                    int[] middle = new int[3];
                    for (int i = 0; i < 3; i++) middle[i] = (int) Math.floor((double) sum[i] / n);
                    if (!Arrays.equals(middle, cells.get(c).centre)) changed++;
                    cells.get(c).centre = middle;
                }
            }
            for (Cell c : cells) { c.least = null; c.greatest = null; }
            for (Vec v : there()) comes(v, nearestCell(v.place));
            return changed;
        }
        int code(Vec v, int i) {
            int c = (int) Math.floor((double) (v.place[i] - cells.get(v.cell).centre[i]) / step);
            return c < -128 ? -128 : c > 127 ? 127 : c;
        }
        float lowOfCell(Cell c) {
            int[] d = new int[3];
            for (int i = 0; i < 3; i++) d[i] = outside(query[i], c.least[i], c.greatest[i]);
            return measure().low(d);
        }
        float lowOfVector(Vec v) {
            int[] d = new int[3];
            for (int i = 0; i < 3; i++) {
                int c = code(v, i);
                int from = cells.get(v.cell).centre[i] + c * step, to = from + step - 1;
                if (c == -128) from = -999;
                if (c == 127) to = 999;
                d[i] = outside(query[i], from, to);
            }
            return measure().low(d);
        }
    }
    static int outside(int q, int from, int to) { return q < from ? from - q : q > to ? q - to : 0; }
    static long squares(int[] a, int[] b) {
        long sum = 0;
        for (int i = 0; i < 3; i++) sum += (long) (a[i] - b[i]) * (a[i] - b[i]);
        return sum;
    }

    State s = new State();
    State kept = null;
    final List<ModelText> texts = new ArrayList<>(List.of(new ModelText("fits 1 ; adds 0 ;")));
    final StringBuilder tape = new StringBuilder();
    final Object[] sheets = new Object[4];

    // ---- what fits and how far it is

    boolean fits(State t, Vec v) { return !v.dropped && texts.get(t.rule).fits(t, v) != 0; }
    int push(State t, Vec v) { return Math.max(0, Math.min(99, texts.get(t.rule).adds(t, v))); }
    int far(State t, Vec v) { return t.apart(v.place, t.query) + push(t, v); }
    List<Vec> fitting(State t) {
        List<Vec> out = new ArrayList<>();
        for (Vec v : t.vecs) if (fits(t, v)) out.add(v);
        out.sort(Comparator.<Vec>comparingInt(v -> far(t, v)).thenComparingInt(v -> v.number));
        return out;
    }
    int first(State t) { return fitting(t).isEmpty() ? NONE : fitting(t).get(0).number; }

    /** NEAR, then how many are read, skipped, cells opened. */
    int[] reading(State t, int k, List<Vec> held) {
        int[] counts = new int[3];
        List<Cell> order = new ArrayList<>();
        for (Cell c : t.cells) if (c.least != null) order.add(c);
        order.sort(Comparator.comparing((Cell c) -> t.lowOfCell(c)));
        Comparator<Vec> ahead = Comparator.<Vec>comparingInt(v -> far(t, v)).thenComparingInt(v -> v.number);
        for (Cell c : order) {
            if (held.size() == k && t.lowOfCell(c) > highOf(far(t, held.get(k - 1)))) break;
            counts[2]++;
            for (Vec v : t.vecs) {
                if (v.dropped || t.cells.get(v.cell) != c) continue;
                if (held.size() == k && t.lowOfVector(v) > highOf(far(t, held.get(k - 1)))) { counts[1]++; continue; }
                counts[0]++;
                if (fits(t, v)) {
                    held.add(v);
                    held.sort(ahead);
                    if (held.size() > k) held.remove(k);
                }
            }
        }
        return counts;
    }

    // ---- the calls

    static boolean in(int n, int a, int b) { return a <= n && n <= b; }
    static boolean place(int... p) { for (int q : p) if (!in(q, -999, 999)) return false; return true; }
    boolean vec(int one) { return in(one, 0, s.vecs.size() - 1); }
    static int bits(List<Vec> of) { int b = 0; for (Vec v : of) b |= 1 << v.number; return b; }

    int cell(int x, int y, int z) {
        if (!place(x, y, z)) return BAD;
        if (s.cells.size() == 4) return FULL;
        s.cells.add(new Cell(x, y, z));
        return s.cells.size() - 1;
    }
    int vector(int x, int y, int z, int tag) {
        if (!place(x, y, z) || !in(tag, -99, 99)) return BAD;
        if (s.cells.isEmpty()) return STATE;
        if (s.vecs.size() == 12) return FULL;
        Vec v = new Vec();
        v.place = new int[] {x, y, z}; v.tag = tag; v.number = s.vecs.size();
        s.vecs.add(v);
        s.comes(v, s.nearestCell(v.place));
        return v.number;
    }
    int move(int one, int x, int y, int z) {
        if (!vec(one) || !place(x, y, z)) return BAD;
        Vec v = s.vecs.get(one);
        if (v.dropped) return STATE;
        v.place = new int[] {x, y, z};
        s.comes(v, s.nearestCell(v.place));
        return v.cell;
    }
    int drop(int one, int is) {
        if (!vec(one) || !in(is, 0, 1)) return BAD;
        Vec v = s.vecs.get(one);
        if (v.cell == NONE) return STATE;
        int was = v.dropped ? 1 : 0;
        v.dropped = is == 1;
        return was;
    }
    int told(int one, int what) {
        if (!vec(one) || !in(what, 0, 12)) return NO_ANSWER;
        Vec v = s.vecs.get(one);
        if (what < 3) return v.place[what];
        if (what == 3) return v.tag;
        if (what == 4) return v.dropped ? 1 : 0;
        if (what == 5) return v.cell;
        if (what == 9) return fits(s, v) ? 1 : 0;
        if (what == 10) return push(s, v);
        if (what == 11) return far(s, v);
        if (v.cell == NONE) return NO_ANSWER;
        return what == 12 ? (int) s.lowOfVector(v) : s.code(v, what - 6);
    }
    int holds(int cell, int what) {
        if (!in(cell, 0, s.cells.size() - 1) || !in(what, 0, 11)) return NO_ANSWER;
        Cell c = s.cells.get(cell);
        if (what < 3) return c.centre[what];
        if (what >= 10) {
            int n = 0;
            for (Vec v : s.vecs) if (v.cell == cell && (what == 10 || !v.dropped)) n++;
            return n;
        }
        if (c.least == null) return NO_ANSWER;
        if (what == 9) return (int) s.lowOfCell(c);
        return what < 6 ? c.least[what - 3] : c.greatest[what - 6];
    }
    int set(int what, int v) {
        int was;
        switch (what) {
            case 0: if (!in(v, 1, 64)) return BAD; was = s.step; s.step = v; return was;
            case 1: if (!in(v, 0, 99)) return BAD; was = s.slack; s.slack = v; return was;
            case 2: if (!in(v, 0, 999999)) return BAD; was = s.cap; s.cap = v; return was;
            case 3: if (!in(v, 0, 5)) return BAD; was = s.kind; s.kind = v; return was;
            case 4: case 5: case 6:
                if (!in(v, 1, 9)) return BAD;
                was = s.weights[what - 4];
                s.weights[what - 4] = v;
                return was;
            default: return BAD;
        }
    }
    int query(int x, int y, int z) {
        if (!place(x, y, z)) return BAD;
        s.query = new int[] {x, y, z};
        return fitting(s).size();
    }
    int apart(int one, int other) {
        return vec(one) && vec(other) ? s.apart(s.vecs.get(one).place, s.vecs.get(other).place) : BAD;
    }
    int high(int n) { return in(n, 0, 999999999) ? (int) highOf(n) : BAD; }
    int tidy(int cell) { return in(cell, 0, s.cells.size() - 1) ? s.tidy(cell) : BAD; }
    int centre() { return s.cells.isEmpty() ? STATE : s.centre(); }

    int feed(int letter) {
        if (!in(letter, 0, 255)) return BAD;
        if (tape.length() == 160) return FULL;
        tape.append((char) letter);
        return tape.length();
    }
    int text() {
        if (texts.size() == 6) return FULL;
        ModelText t = new ModelText(tape.toString());
        tape.setLength(0);
        if (t.fault >= 0) return -100 - t.fault;
        texts.add(t);
        return texts.size() - 1;
    }
    int force(int text) {
        if (!in(text, 0, texts.size() - 1)) return BAD;
        int was = s.rule;
        s.rule = text;
        return was;
    }

    int near(int k, int what) {
        if (!in(k, 1, 5) || !in(what, 0, 9)) return BAD;
        List<Vec> held = new ArrayList<>();
        int[] counts = reading(s, k, held);
        List<Vec> fit = fitting(s);
        if (!held.equals(fit.subList(0, Math.min(k, fit.size())))) throw new AssertionError("reading is not exact");
        if (what < 5) return what < held.size() ? held.get(what).number : NONE;
        if (what < 8) return counts[what - 5];
        if (what == 9) return held.size();
        return held.isEmpty() ? NONE : far(s, held.get(held.size() - 1));
    }
    int within(int r, int what) {
        if (!in(r, 0, 999999999) || !in(what, 0, 1)) return BAD;
        List<Vec> fit = fitting(s);
        fit.removeIf(v -> far(s, v) > r);
        return what == 0 ? fit.size() : bits(fit);
    }
    int rank(int one) { return vec(one) ? fitting(s).indexOf(s.vecs.get(one)) : BAD; }
    int friendOf(Vec v) {
        return s.there().stream().filter(o -> o != v)
            .min(Comparator.<Vec>comparingInt(o -> s.apart(o.place, v.place)).thenComparingInt(o -> o.number))
            .map(o -> o.number).orElse(NONE);
    }
    int friend(int one, int what) {
        if (!vec(one) || !in(what, 0, 1)) return BAD;
        if (what == 0) return friendOf(s.vecs.get(one));
        List<Vec> of = s.there();
        of.removeIf(v -> friendOf(v) != one);
        return bits(of);
    }
    int[] best(boolean serve) {
        List<Vec> there = s.there();
        int[] best = null;
        for (Vec a : there) for (Vec b : there) if (a.number < b.number) {
            int price = 0;
            if (serve) {
                for (Vec v : there) price += Math.min(s.apart(v.place, a.place), s.apart(v.place, b.place));
            } else {
                price = s.apart(a.place, b.place);
            }
            if (best == null || price < best[2]) best = new int[] {a.number, b.number, price};
        }
        return best;
    }
    int part(int what, boolean serve) {
        if (!in(what, 0, 2)) return BAD;
        int[] best = best(serve);
        return best == null ? NONE : best[what];
    }
    int pair(int what) { return part(what, false); }
    int two(int what) { return part(what, true); }
    int spread(int i) {
        if (!in(i, 0, 11)) return BAD;
        List<Vec> left = s.there();
        List<Vec> told = new ArrayList<>();
        while (!left.isEmpty()) {
            Vec next = left.get(0);
            for (Vec v : left) if (!told.isEmpty() && toNearest(v, told) > toNearest(next, told)) next = v;
            told.add(next);
            left.remove(next);
        }
        return i < told.size() ? told.get(i).number : NONE;
    }
    int toNearest(Vec v, List<Vec> told) { return told.stream().mapToInt(t -> s.apart(v.place, t.place)).min().getAsInt(); }
    int cover(int r, int what) {
        if (!in(r, 0, 999999999) || !in(what, 0, 1)) return BAD;
        List<Vec> there = s.there();
        int best = NONE;
        for (int size = 0; size <= 12 && best == NONE; size++) {
            for (int set = 0; set < 4096 && best == NONE; set++) {
                if (Integer.bitCount(set) == size && covers(set, there, r)) best = set;
            }
        }
        return what == 0 && best != NONE ? Integer.bitCount(best) : best;
    }
    boolean covers(int set, List<Vec> there, int r) {
        if ((set & ~bits(there)) != 0) return false;
        for (Vec v : there) {
            boolean is = false;
            for (Vec c : there) is |= (set >> c.number & 1) == 1 && s.apart(v.place, c.place) <= r;
            if (!is) return false;
        }
        return true;
    }
    int rounds(int what) {
        if (!in(what, 0, 1)) return BAD;
        if (s.cells.isEmpty()) return STATE;
        State t = s.copy();
        int n = 0;
        while (n < 20) {
            n++;
            if (t.centre() == 0) break;
        }
        if (what == 0) return n;
        long sum = 0;
        for (Vec v : t.there()) sum += squares(v.place, t.cells.get(v.cell).centre);
        return (int) sum;
    }
    int goes(int i, int g) {
        if (!in(i, 0, 2) || !in(g, -99, 99)) return BAD;
        State t = s.copy();
        int now = first(t);
        for (int n = 1; n <= 40; n++) {
            t.query[i] += g;
            if (!place(t.query)) return NONE;
            if (first(t) != now) return n;
        }
        return NONE;
    }
    int readAt(int[] at) {
        State t = s.copy();
        t.query = at.clone();
        return reading(t, 1, new ArrayList<>())[0];
    }
    static long lowest(int above, int below, int part) {
        int d = java.math.BigInteger.valueOf(above).gcd(java.math.BigInteger.valueOf(below)).intValue();
        return part == 0 ? above / d : below / d;
    }
    long costs(int part) {
        if (!in(part, 0, 1) || s.there().isEmpty()) return NO;
        int read = 0;
        for (Vec v : s.there()) read += readAt(v.place);
        return lowest(read, s.there().size(), part);
    }
    long lot(int seed, int m, int h, int part) {
        if (!in(m, 1, 20) || !in(h, 0, 12) || !in(part, 0, 1)) return NO;
        int n = 0;
        for (int i = 0; i < m; i++) if (readAt(drawnAt(seed + i)) > h) n++;
        return lowest(n, m, part);
    }
    static int[] drawnAt(int seed) {
        int[] at = new int[3];
        int z = seed;
        for (int i = 0; i < 3; i++) {
            z = z * 1103515245 + 12345;
            at[i] = (z >>> 9) % 1999 - 999;
        }
        return at;
    }
    int drawn(int seed, int i) { return in(i, 0, 2) ? drawnAt(seed)[i] : NO_ANSWER; }

    boolean so(State t, int[] row) { return otherwise(t, row) == NONE; }
    int firstAt(State t, int i) {
        State u = t.copy();
        u.query = i < u.vecs.size() ? u.vecs.get(i).place.clone() : new int[3];
        return first(u);
    }
    int otherwise(State t, int[] row) {
        for (int i = 0; i < row.length; i++) if (firstAt(t, i) != row[i]) return i;
        return NONE;
    }
    int tells(int sheet, int what) {
        if (!in(sheet, 0, 3) || !in(what, 0, 4)) return BAD;
        if (sheets[sheet] == null) return -11;
        int[] row = telling(sheets[sheet]);
        if (row.length > 12) return BAD;
        if (what == 0) return otherwise(s, row);
        int out = 0;
        int to = what == 1 ? 5 : what == 2 ? texts.size() - 1 : what == 3 ? 9 : s.vecs.size() - 1;
        for (int i = what == 3 ? 1 : 0; i <= to; i++) {
            State t = s.copy();
            if (what == 1) t.kind = i;
            if (what == 2) t.rule = i;
            if (what == 3) t.weights[0] = i;
            if (what == 4) {
                if (t.vecs.get(i).dropped) continue;
                t.vecs.get(i).dropped = true;
            }
            if (so(t, row)) out |= 1 << i;
        }
        return out;
    }
    int film(int sheet, int n) {
        if (!in(sheet, 0, 3) || !in(n, 0, 12)) return BAD;
        short[] row = new short[n];
        for (int i = 0; i < n; i++) row[i] = (short) firstAt(s, i);
        sheets[sheet] = row;
        return n;
    }
    int image() { kept = s.copy(); return s.vecs.size(); }
    int back() {
        if (kept == null) return STATE;
        s = kept.copy();
        return s.vecs.size();
    }
    int count(int what) {
        switch (what) {
            case 0: return s.vecs.size();
            case 1: return s.cells.size();
            case 2: return s.there().size();
            case 3: return texts.size();
            case 4: return tape.length();
            case 5: return s.rule;
            case 6: return fitting(s).size();
            case 7: return s.kind;
            default: return BAD;
        }
    }

    // ---- the host

    static int size(Object row) { return java.lang.reflect.Array.getLength(row); }
    static int tell(Object row, int i) {
        if (row instanceof byte[] b) return b[i];
        if (row instanceof short[] h) return h[i];
        return (int) (((float[]) row)[i] * 4f);
    }
    static int[] telling(Object row) {
        int[] out = new int[size(row)];
        for (int i = 0; i < out.length; i++) out[i] = tell(row, i);
        return out;
    }
    static boolean run(Object row, int i, int n) { return i >= 0 && n >= 0 && (long) i + n <= size(row); }
    static boolean sort(Object row, int sort) {
        return sort == 0 ? row instanceof float[] : sort == 1 ? row instanceof byte[] : row instanceof short[];
    }
    int sheet(int sheet, int sort, int n) {
        if (!in(sheet, 0, 3) || !in(sort, -1, 2)) return BAD;
        if (sort == -1) { sheets[sheet] = null; return 1; }
        if (n > 40) return BAD;
        if (n < 0) return -14;
        sheets[sheet] = sort == 0 ? new float[n] : sort == 1 ? new byte[n] : new short[n];
        return 1;
    }
    int put(int sheet, int i, int v) {
        if (!in(sheet, 0, 3)) return BAD;
        if (sheets[sheet] == null) return -11;
        if (!run(sheets[sheet], i, 1)) return -12;
        if (sheets[sheet] instanceof float[] f) f[i] = v * 0.25f;
        if (sheets[sheet] instanceof byte[] b) b[i] = (byte) v;
        if (sheets[sheet] instanceof short[] h) h[i] = (short) v;
        return 1;
    }
    int blank(int sheet, int i) {
        if (!in(sheet, 0, 3)) return BAD;
        if (sheets[sheet] == null) return -11;
        if (!sort(sheets[sheet], 0)) return -13;
        if (!run(sheets[sheet], i, 1)) return -12;
        ((float[]) sheets[sheet])[i] = Float.NaN;
        return 1;
    }
    int item(int sheet, int i) {
        if (!in(sheet, 0, 3) || sheets[sheet] == null || !run(sheets[sheet], i, 1)) return NO_ANSWER;
        return tell(sheets[sheet], i);
    }
    int copy(int sheet, int i, int other, int j, int n) {
        if (!in(sheet, 0, 3) || !in(other, 0, 3)) return BAD;
        Object a = sheets[sheet], b = sheets[other];
        if (a == null || b == null) return -11;
        if (a.getClass() != b.getClass()) return -13;
        if (!run(a, i, n) || !run(b, j, n)) return -12;
        System.arraycopy(a, i, b, j, n);
        return n;
    }
    int rest(int sheet, int i, int j) {
        if (!in(sheet, 0, 3)) return BAD;
        if (sheets[sheet] == null) return -11;
        if (!sort(sheets[sheet], 1)) return -13;
        byte[] row = (byte[]) sheets[sheet];
        if (!run(row, i, 1) || !run(row, j, 1)) return -12;
        return row[j] == 0 ? -15 : row[i] % row[j];
    }
    int shelve(int sheet, int sort, int from, int n) {
        if (!in(sheet, 0, 3) || !in(sort, 0, 2) || !in(n, 0, 12)) return BAD;
        Object row = sheets[sheet];
        if (row != null && !sort(row, sort)) return -13;
        if (row == null) return -11;
        int came = 0;
        for (int k = 0; k < n; k++) {
            int[] v = new int[4];
            for (int i = 0; i < 4; i++) {
                long at = (long) from + 4L * k + i;
                if (at < 0 || at >= size(row)) return -12;
                v[i] = tell(row, (int) at);
            }
            if (vector(v[0], v[1], v[2], v[3]) >= 0) came++;
        }
        return came;
    }
    int ask(int sheet, int from) {
        if (!in(sheet, 0, 3)) return BAD;
        Object row = sheets[sheet];
        if (row != null && !sort(row, 0)) return -13;
        if (row == null) return -11;
        if (!run(row, from, 3)) return -12;
        int[] q = new int[3];
        for (int i = 0; i < 3; i++) q[i] = (int) (((float[]) row)[from + i] % 250f * 4f);
        return query(q[0], q[1], q[2]);
    }
    int code(int one, int sheet, int i) {
        if (!in(sheet, 0, 3) || !vec(one)) return BAD;
        Vec v = s.vecs.get(one);
        if (v.cell == NONE) return STATE;
        if (sheets[sheet] == null) return -11;
        if (!sort(sheets[sheet], 1)) return -13;
        if (!run(sheets[sheet], i, 3)) return -12;
        for (int n = 0; n < 3; n++) ((byte[]) sheets[sheet])[i + n] = (byte) s.code(v, n);
        return 3;
    }
    int taken(int k) {
        if (!in(k, 0, 5)) return BAD;
        Class<?>[] kinds = {Square.class, Weighed.class, Block.class, Dead.class, Most.class, Capped.class};
        return kinds[k].isInstance(s.measure()) ? s.kind : -13;
    }
}
