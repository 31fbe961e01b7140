/** Promises 17 to 29: who is near. */
public final class NearTest {
    private static final Check CHECK = new Check();

    private static void due(String call, long got, long want) {
        CHECK.due(call, got, want);
    }

    /** Five vectors on a line, three in a cell about 0, two in one about 100. */
    static VectorShelf line() {
        VectorShelf s = new VectorShelf();
        s.cell(0, 0, 0);
        s.cell(100, 0, 0);
        for (int x : new int[] {1, 3, -2, 99, 103}) s.vector(x, 0, 0, 0);
        return s;
    }

    static int rule(VectorShelf s, String text) {
        for (int i = 0; i < text.length(); i++) s.feed(text.charAt(i));
        int number = s.text();
        s.force(number);
        return number;
    }

    private static void reading(String name, VectorShelf s, int k, int... due) {
        for (int what = 0; what < 10; what++) due("17: " + name + ", " + k + ", " + what, s.near(k, what), due[what]);
    }

    /** Promise 17. */
    private static void near() {
        VectorShelf s = line();
        reading("line", s, 1, 0, -1, -1, -1, -1, 3, 0, 1, 1, 1);
        reading("line", s, 3, 0, 2, 1, -1, -1, 3, 0, 1, 9, 3);
        reading("line", s, 4, 0, 2, 1, 3, -1, 4, 1, 2, 9801, 4);
        reading("line", s, 5, 0, 2, 1, 3, 4, 5, 0, 2, 10609, 5);
        s.set(0, 1);
        reading("short codes", s, 1, 0, -1, -1, -1, -1, 1, 2, 1, 1, 1);
        s.drop(0, 1);
        reading("without 0", s, 1, 2, -1, -1, -1, -1, 2, 0, 1, 4, 1);
        s.drop(1, 1);
        s.drop(2, 1);
        reading("a CELL of none THERE is OPENED", s, 1, 3, -1, -1, -1, -1, 1, 1, 2, 9801, 1);
        s.tidy(0);
        reading("one without a BOX is not", s, 1, 3, -1, -1, -1, -1, 1, 1, 1, 9801, 1);
        due("17: BAD", s.near(0, 0), -2);
        due("17: BAD", s.near(6, 0), -2);
        due("17: BAD", s.near(1, -1), -2);
        due("17: BAD", s.near(1, 10), -2);
        reading("a new one", new VectorShelf(), 1, -1, -1, -1, -1, -1, 0, 0, 0, -1, 0);
    }

    /** Promise 17: likes, order of cells, what is pushed away. */
    private static void nearOfLikeOnes() {
        VectorShelf s = new VectorShelf();
        s.cell(10, 0, 0);
        s.cell(-10, 0, 0);
        s.vector(-10, 0, 0, 0);
        s.vector(10, 0, 0, 9);
        s.vector(-10, 0, 0, 0);
        // Both cells are as low: the first is opened first, then the other, for its LOW is not above.
        reading("like ones", s, 2, 0, 1, -1, -1, -1, 3, 0, 2, 100, 2);
        rule(s, "fits 1;adds tag;");
        reading("pushed", s, 2, 0, 2, -1, -1, -1, 3, 0, 2, 100, 2);
        reading("pushed", s, 3, 0, 2, 1, -1, -1, 3, 0, 2, 109, 3);
        rule(s, "fits tag;adds 0;");
        reading("that fit", s, 2, 1, -1, -1, -1, -1, 3, 0, 2, 100, 1);
        s.query(20, 0, 0);
        // The second cell is as low as 900, the one that is held as far as 100.
        reading("that fit", s, 1, 1, -1, -1, -1, -1, 1, 0, 1, 100, 1);
        s.query(-20, 0, 0);
        reading("the other CELL first", s, 1, 1, -1, -1, -1, -1, 3, 0, 2, 900, 1);
    }

    /** Promise 17: of cells that are as low the first is opened first. */
    private static void nearOfLikeCells() {
        VectorShelf s = new VectorShelf();
        s.cell(0, 0, 0);
        s.cell(100, 0, 0);
        s.vector(50, 0, 0, 0);
        s.vector(60, 0, 0, 0);
        s.vector(100, 0, 0, 0);
        s.drop(1, 1);
        s.query(55, 0, 0);
        reading("like cells", s, 1, 0, -1, -1, -1, -1, 1, 1, 2, 25, 1);
    }

    /** Promise 18. */
    private static void within() {
        VectorShelf s = line();
        due("18: 4", s.within(4, 0), 2);
        due("18: 4", s.within(4, 1), 5);
        due("18: 3", s.within(3, 1), 1);
        due("18: 0", s.within(0, 0), 0);
        due("18: all", s.within(999999999, 1), 31);
        due("18: BAD", s.within(-1, 0), -2);
        due("18: BAD", s.within(1000000000, 0), -2);
        due("18: BAD", s.within(0, 2), -2);
        due("18: BAD", s.within(0, -1), -2);
        s.drop(2, 1);
        due("18: without 2", s.within(4, 1), 1);
        rule(s, "fits number;adds 1;");
        due("18: FAR has PUSH in it", s.within(9, 1), 0);
        due("18: FAR has PUSH in it", s.within(10, 1), 2);
    }

    /** Promise 19. */
    private static void rank() {
        VectorShelf s = line();
        int[] due = {0, 2, 1, 3, 4};
        for (int i = 0; i < 5; i++) due("19: rank(" + i + ")", s.rank(i), due[i]);
        due("19: BAD", s.rank(5), -2);
        due("19: BAD", s.rank(-1), -2);
        s.vector(1, 0, 0, 0);
        due("19: of like ones the number", s.rank(5), 1);
        due("19: of like ones the number", s.rank(0), 0);
        s.drop(0, 1);
        due("19: does not FIT", s.rank(0), -1);
        due("19: who does not FIT is not AHEAD", s.rank(5), 0);
        rule(s, "fits number = 3; adds 0;");
        due("19: alone", s.rank(3), 0);
        due("19: does not FIT", s.rank(4), -1);
    }

    /** Promise 20. */
    private static void friend() {
        VectorShelf s = line();
        int[] due = {1, 0, 0, 4, 3};
        int[] by = {6, 1, 0, 16, 8};
        for (int i = 0; i < 5; i++) {
            due("20: friend(" + i + ", 0)", s.friend(i, 0), due[i]);
            due("20: friend(" + i + ", 1)", s.friend(i, 1), by[i]);
        }
        s.drop(0, 1);
        due("20: of a DROPPED one", s.friend(0, 0), 1);
        due("20: by none", s.friend(0, 1), 0);
        due("20: without 0", s.friend(1, 1), 4);
        due("20: BAD", s.friend(5, 0), -2);
        due("20: BAD", s.friend(-1, 0), -2);
        due("20: BAD", s.friend(0, 2), -2);
        for (int i = 1; i < 5; i++) s.drop(i, 1);
        due("20: no other", s.friend(0, 0), -1);
        s.drop(2, 0);
        due("20: no other", s.friend(2, 0), -1);
        due("20: no other has it", s.friend(2, 1), 0);
        due("20: the only one", s.friend(0, 0), 2);
        VectorShelf t = new VectorShelf();
        t.cell(0, 0, 0);
        for (int x : new int[] {5, 0, 10}) t.vector(x, 0, 0, 0);
        due("20: of like ones the first", t.friend(0, 0), 1);
        rule(t, "fits 0;adds 50*number;");
        due("20: whatever fits", t.friend(1, 0), 0);
    }

    /** Promise 21. */
    private static void pair() {
        VectorShelf s = line();
        int[] due = {0, 1, 4};
        for (int what = 0; what < 3; what++) due("21: pair(" + what + ")", s.pair(what), due[what]);
        due("21: BAD", s.pair(3), -2);
        due("21: BAD", s.pair(-1), -2);
        s.drop(1, 1);
        int[] then = {0, 2, 9};
        for (int what = 0; what < 3; what++) due("21: pair(" + what + ")", s.pair(what), then[what]);
        s.move(0, 2, 0, 0);
        int[] last = {0, 2, 16};
        for (int what = 0; what < 3; what++) due("21: of like ones the first", s.pair(what), last[what]);
        for (int i = 0; i < 4; i++) s.drop(i, 1);
        due("21: one is THERE", s.pair(0), -1);
        due("21: one is THERE", s.pair(2), -1);
        due("21: BAD ahead of NONE", s.pair(3), -2);
    }

    /** Promise 22. */
    private static void spread() {
        VectorShelf s = line();
        int[] due = {0, 4, 3, 2, 1, -1};
        for (int i = 0; i < 6; i++) due("22: spread(" + i + ")", s.spread(i), due[i]);
        due("22: fewer", s.spread(11), -1);
        due("22: BAD", s.spread(12), -2);
        due("22: BAD", s.spread(-1), -2);
        s.drop(0, 1);
        // From 3: 5, 96, 100 away on the line.
        int[] then = {1, 4, 2, 3, -1};
        for (int i = 0; i < 5; i++) due("22: spread(" + i + ") without 0", s.spread(i), then[i]);
        VectorShelf t = new VectorShelf();
        t.cell(0, 0, 0);
        for (int x : new int[] {0, 5, -5, 5}) t.vector(x, 0, 0, 0);
        int[] like = {0, 1, 2, 3};
        for (int i = 0; i < 4; i++) due("22: of like ones the first", t.spread(i), like[i]);
    }

    /** Promise 23. */
    private static void cover() {
        VectorShelf s = line();
        due("23: 16", s.cover(16, 0), 2);
        due("23: 16", s.cover(16, 1), 9);
        due("23: 15", s.cover(15, 0), 3);
        due("23: 15", s.cover(15, 1), 25);
        due("23: 0", s.cover(0, 1), 31);
        due("23: all", s.cover(999999999, 0), 1);
        due("23: all", s.cover(999999999, 1), 1);
        due("23: BAD", s.cover(-1, 0), -2);
        due("23: BAD", s.cover(1000000000, 0), -2);
        due("23: BAD", s.cover(0, 2), -2);
        s.set(3, 4);
        due("23: no such set", s.cover(0, 0), -1);
        due("23: no such set", s.cover(0, 1), -1);
        due("23: all alone", s.cover(1, 1), 31);
        s.set(3, 0);
        s.drop(0, 1);
        due("23: without 0", s.cover(25, 1), 2 + 8);
        for (int i = 1; i < 5; i++) s.drop(i, 1);
        due("23: none THERE", s.cover(0, 0), 0);
        due("23: none THERE", s.cover(0, 1), 0);
        VectorShelf t = new VectorShelf();
        t.cell(0, 0, 0);
        for (int x : new int[] {-5, 5, 0}) t.vector(x, 0, 0, 0);
        due("23: fewest ahead of least bits", t.cover(25, 1), 4);
    }

    /** Promise 24. */
    private static void two() {
        VectorShelf s = line();
        int[] due = {0, 3, 29};
        for (int what = 0; what < 3; what++) due("24: two(" + what + ")", s.two(what), due[what]);
        due("24: BAD", s.two(3), -2);
        due("24: BAD", s.two(-1), -2);
        s.drop(3, 1);
        int[] then = {0, 4, 13};
        for (int what = 0; what < 3; what++) due("24: without 3", s.two(what), then[what]);
        s.drop(4, 1);
        s.drop(0, 1);
        int[] last = {1, 2, 0};
        for (int what = 0; what < 3; what++) due("24: two are THERE", s.two(what), last[what]);
        s.set(3, 4);
        due("24: from itself, too", s.two(2), 2);
        s.drop(1, 1);
        VectorShelf t = new VectorShelf();
        t.cell(0, 0, 0);
        for (int x : new int[] {0, 2, 100, 200, 202}) t.vector(x, 0, 0, 0);
        t.move(0, -4, 0, 0);
        due("24: 0 is served, too", t.two(2), 36 + 98 * 98 + 4);
        due("24: the lesser", t.two(0), 1);
        due("24: the other", t.two(1), 3);
        due("24: one is THERE", s.two(0), -1);
        due("24: one is THERE", s.two(2), -1);
    }

    /** Promise 25. */
    private static void rounds() {
        VectorShelf s = new VectorShelf();
        due("25: BAD ahead of STATE", s.rounds(2), -2);
        due("25: BAD ahead of STATE", s.rounds(-1), -2);
        due("25: STATE", s.rounds(0), -3);
        s.cell(0, 0, 0);
        due("25: no CENTRE otherwise", s.rounds(0), 1);
        due("25: none THERE", s.rounds(1), 0);
        VectorShelf t = line();
        t.set(3, 2);
        due("25: how many", t.rounds(0), 2);
        due("25: the sum, by squares", t.rounds(1), 1 + 9 + 4 + 4 + 4);
        due("25: in thought", t.holds(1, 0), 100);
        t.drop(4, 1);
        t.centre();
        t.drop(3, 1);
        due("25: in thought", t.rounds(0), 1);
        due("25: in thought", t.told(3, 5), 1);
    }

    /** Promise 25: where twenty rounds are not enough. */
    private static void manyRounds() {
        VectorShelf s = new VectorShelf();
        for (int x : new int[] {92, 70, 97, 104}) s.cell(x, 0, 0);
        for (int x : new int[] {-55, 30, 60, -174, 64, 73, -26, 65, 76, 85, -12, 68}) s.vector(x, 0, 0, 0);
        due("25: 20 at most", s.rounds(0), 20);
        due("25: the sum then", s.rounds(1), 1397);
        int made = 0;
        while (made < 40 && s.centre() > 0) made++;
        due("25: so many were otherwise", made, 20);
        due("25: one more", s.rounds(0), 1);
        due("25: the same sum", s.rounds(1), 1397);
    }

    /** Promise 26. */
    private static void goes() {
        VectorShelf s = line();
        due("26: 1", s.goes(0, 1), 3);
        due("26: -1", s.goes(0, -1), 1);
        due("26: 10", s.goes(0, 10), 1);
        due("26: 0", s.goes(0, 0), -1);
        due("26: by none", s.goes(1, 24), -1);
        due("26: leaves", s.goes(2, 99), -1);
        due("26: in thought", s.told(0, 11), 1);
        due("26: BAD", s.goes(3, 1), -2);
        due("26: BAD", s.goes(-1, 1), -2);
        due("26: BAD", s.goes(0, 100), -2);
        due("26: BAD", s.goes(0, -100), -2);
        due("26: NONE is an answer", new VectorShelf().goes(0, 5), -1);
        VectorShelf t = new VectorShelf();
        t.cell(0, 0, 0);
        t.vector(0, 0, 0, 0);
        t.vector(80, 0, 0, 0);
        due("26: not yet behind 40", t.goes(0, 1), -1);
        t.query(1, 0, 0);
        due("26: behind 40", t.goes(0, 1), 40);
        t.query(-999, 0, 0);
        t.move(0, -998, 0, 0);
        t.move(1, 996, 0, 0);
        due("26: to the very bound", t.goes(0, 54), 19);
        t.query(999, 0, 0);
        due("26: leaves at once", t.goes(0, 1), -1);
        t.query(900, 0, 0);
        t.move(0, 900, 0, 0);
        t.move(1, 999, 0, 0);
        due("26: at the bound", t.goes(0, 99), 1);
    }

    /** Promise 27. */
    private static void costs() {
        VectorShelf s = line();
        due("27: 10 of 5", s.costs(0), 2);
        due("27: 10 of 5", s.costs(1), 1);
        due("27: part", s.costs(2), VectorShelf.NO);
        due("27: part", s.costs(-1), VectorShelf.NO);
        due("27: in thought", s.told(0, 11), 1);
        s.set(0, 1);
        // At 3, -2, 103 one of the cell is read ahead of the nearest one.
        due("27: short codes", s.costs(0), 8);
        due("27: short codes", s.costs(1), 5);
        for (int i = 0; i < 5; i++) s.drop(i, 1);
        due("27: none is THERE", s.costs(0), VectorShelf.NO);
        due("27: none is THERE", s.costs(1), VectorShelf.NO);
    }

    /** Promise 28. */
    private static void lot() {
        VectorShelf s = new VectorShelf();
        due("28: nothing READ", s.lot(7, 3, 0, 0), 0);
        due("28: lowest terms", s.lot(7, 3, 0, 1), 1);
        s.cell(-500, 0, 0);
        s.cell(500, 0, 0);
        s.vector(-500, 0, 0, 0);
        s.vector(500, 0, 0, 0);
        s.vector(500, 0, 0, 0);
        for (int seed : new int[] {1, -50, 12345, Integer.MAX_VALUE - 4, Integer.MIN_VALUE}) {
            int right = 0;
            for (int i = 0; i < 20; i++) right += s.drawn(seed + i, 0) > 0 ? 1 : 0;
            int divisor = right == 0 ? 20 : java.math.BigInteger.valueOf(right).gcd(java.math.BigInteger.valueOf(20)).intValue();
            due("28: above", s.lot(seed, 20, 1, 0), right / divisor);
            due("28: below", s.lot(seed, 20, 1, 1), 20 / divisor);
            due("28: more than 0", s.lot(seed, 20, 0, 0), 1);
            due("28: more than 2", s.lot(seed, 20, 2, 0), 0);
        }
        due("28: in thought", s.told(0, 11), 250000);
        lotByEachCoordinate();
        due("28: m", s.lot(0, 0, 0, 0), VectorShelf.NO);
        due("28: m", s.lot(0, 21, 0, 0), VectorShelf.NO);
        due("28: h", s.lot(0, 1, -1, 0), VectorShelf.NO);
        due("28: h", s.lot(0, 1, 13, 0), VectorShelf.NO);
        due("28: part", s.lot(0, 1, 0, 2), VectorShelf.NO);
        due("28: part", s.lot(0, 1, 0, -1), VectorShelf.NO);
        due("28: bounds", s.lot(0, 1, 12, 1), 1);
    }

    /** Promise 28: each of the coordinates that are drawn. */
    private static void lotByEachCoordinate() {
        for (int i = 0; i < 3; i++) {
            VectorShelf s = new VectorShelf();
            for (int n = -1; n < 2; n++) {
                int at = n < 0 ? -500 : 500;
                if (n < 1) s.cell(i == 0 ? at : 0, i == 1 ? at : 0, i == 2 ? at : 0);
                s.vector(i == 0 ? at : 0, i == 1 ? at : 0, i == 2 ? at : 0, 0);
            }
            for (int seed = 0; seed < 40; seed++) {
                int above = s.drawn(seed, i) > 0 ? 1 : 0;
                due("28: coordinate " + i, s.lot(seed, 1, 1, 0), above);
                above += s.drawn(seed + 1, i) > 0 ? 1 : 0;
                due("28: coordinate " + i + ", two seeds", s.lot(seed, 2, 1, 0), above == 2 ? 1 : above);
                due("28: coordinate " + i + ", two seeds", s.lot(seed, 2, 1, 1), above == 1 ? 2 : 1);
            }
        }
    }

    /** Promise 29. */
    private static void drawn() {
        VectorShelf s = new VectorShelf();
        for (int seed : new int[] {0, 5, -1, 77777, Integer.MAX_VALUE, Integer.MIN_VALUE}) {
            long z = seed & 0xFFFFFFFFL;
            for (int i = 0; i < 3; i++) {
                z = (z * 1103515245L + 12345L) & 0xFFFFFFFFL;
                due("29: drawn(" + seed + ", " + i + ")", s.drawn(seed, i), (z / 512) % 1999 - 999);
            }
        }
        due("29: the document's", s.drawn(5, 0), 127);
        due("29: the document's", s.drawn(5, 2), 635);
        due("29: no such", s.drawn(5, 3), -99999);
        due("29: no such", s.drawn(5, -1), -99999);
    }

    public static void main(String[] args) {
        near();
        nearOfLikeOnes();
        nearOfLikeCells();
        within();
        rank();
        friend();
        pair();
        spread();
        cover();
        two();
        rounds();
        manyRounds();
        goes();
        costs();
        lot();
        drawn();
        CHECK.end();
    }
}
