/** The least, the greatest, the empty and the full that promises 2 to 44 name, and that are no refusals. */
public final class BoundsTest {
    private static final Check CHECK = new Check();
    private static final int MAX = Integer.MAX_VALUE, MIN = Integer.MIN_VALUE;

    private static void due(String call, long got, long want) {
        CHECK.due(call, got, want);
    }

    private static VectorShelf at(int... xs) {
        VectorShelf s = new VectorShelf();
        s.cell(0, 0, 0);
        for (int x : xs) s.vector(x, 0, 0, 0);
        return s;
    }

    /** Twelve on a line at 0, 10, .. 110, in four CELLS. */
    private static VectorShelf twelve() {
        VectorShelf s = new VectorShelf();
        for (int i = 0; i < 4; i++) s.cell(30 * i + 10, 0, 0);
        for (int i = 0; i < 12; i++) s.vector(10 * i, 0, 0, i);
        return s;
    }

    private static void row(VectorShelf s, int sheet, int sort, int... numbers) {
        s.sheet(sheet, sort, numbers.length);
        for (int i = 0; i < numbers.length; i++) s.put(sheet, i, numbers[i]);
    }

    private static void items(String name, VectorShelf s, int sheet, int... due) {
        for (int i = 0; i < due.length; i++) due(name + ", item " + i, s.item(sheet, i), due[i]);
        due(name + ", no item more", s.item(sheet, due.length), -99999);
    }

    /** Promises 2 to 7, 10 and 12: the last number that is one, and TAGS at their bounds. */
    private static void lastNumbers() {
        VectorShelf s = twelve();
        due("2: four CELLS", s.count(1), 4);
        due("3: twelve VECTORS", s.count(0), 12);
        due("6: the last VECTOR, the last but one what", s.told(11, 11), 110 * 110);
        due("6: the last what", s.told(11, 12) > 0 ? 1 : 0, 1);
        due("7: the last CELL, the last what", s.holds(3, 11), 3);
        due("10: one and the same, the last", s.apart(11, 11), 0);
        due("10: the first and the last", s.apart(0, 11), 12100);
        due("5: the last one", s.drop(11, 1), 0);
        due("12: the last CELL", s.tidy(3), 1);
        due("4: the last but one", s.move(10, 0, 0, 0), 0);
        due("4: of like CELLS the first", s.move(9, 25, 0, 0), 0);
        due("9: how many FIT", s.query(0, 0, 0), 11);
        VectorShelf t = new VectorShelf();
        t.cell(0, 0, 0);
        for (int tag : new int[] {-99, 99, 0}) due("3: TAG " + tag, t.told(t.vector(0, 0, 0, tag), 3), tag);
    }

    /** Promise 4: the BOX of the CELL that it leaves stays, also if none has it any more; the place may be its own. */
    private static void move() {
        VectorShelf s = new VectorShelf();
        s.cell(0, 0, 0);
        s.cell(100, 0, 0);
        s.vector(1, 2, 3, 0);
        due("4: to its own PLACE", s.move(0, 1, 2, 3), 0);
        for (int what = 3; what < 9; what++) due("4: the BOX is as it was", s.holds(0, what), (what - 3) % 3 + 1);
        due("4: into another CELL", s.move(0, 99, -2, -3), 1);
        for (int what = 3; what < 9; what++) due("4: the BOX of none stays", s.holds(0, what), (what - 3) % 3 + 1);
        due("4: none has it", s.holds(0, 10), 0);
        due("4: LOW of such a BOX", s.holds(0, 9), 13);
        due("17: such a CELL is OPENED", s.near(1, 7), 2);
        due("4: the BOX that was empty is just this PLACE", s.holds(1, 4), -2);
        due("4: the BOX that was empty is just this PLACE", s.holds(1, 8), -3);
        due("12: none has no CELL by that", s.tidy(0), 0);
        due("12: the BOX is empty", s.holds(0, 3), -99999);
    }

    /** Promise 5: DROPPED, or THERE, again; it keeps CELL, PLACE, BOX, and does not FIT meanwhile. */
    private static void drop() {
        VectorShelf s = at(5, 9);
        for (int i = 0; i < 2; i++) {
            due("5: THERE to THERE", s.drop(1, 0), 0);
            due("5: THERE to DROPPED", s.drop(1, 1), 0);
            due("5: DROPPED to DROPPED", s.drop(1, 1), 1);
            due("5: CELL", s.told(1, 5), 0);
            due("5: PLACE", s.told(1, 0), 9);
            due("5: BOX", s.holds(0, 6), 9);
            due("5: FITS", s.count(6), 1);
            due("5: THERE", s.count(2), 1);
            due("5: VECTORS", s.count(0), 2);
            due("5: DROPPED to THERE", s.drop(1, 0), 1);
            due("5: FITS", s.count(6), 2);
        }
    }

    /** Promise 17: k 1 to 5 of 0 to 6 that FIT; FAR of the last; NONE for those that are not. */
    private static void near() {
        for (int many = 0; many < 7; many++) {
            VectorShelf s = new VectorShelf();
            s.cell(0, 0, 0);
            for (int i = 0; i < many; i++) s.vector(i - 10, 0, 0, 0);
            for (int k = 1; k < 6; k++) {
                int held = Math.min(k, many);
                for (int i = 0; i < 5; i++) due("17: " + many + " for " + k + ", " + i, s.near(k, i), i < held ? many - 1 - i : -1);
                due("17: READ", s.near(k, 5), many);
                due("17: SKIPPED", s.near(k, 6), 0);
                due("17: OPENED", s.near(k, 7), many > 0 ? 1 : 0);
                int last = many - held - 10;
                due("17: FAR of the last", s.near(k, 8), held > 0 ? last * last : -1);
                due("17: how many", s.near(k, 9), held);
            }
        }
        VectorShelf s = twelve();
        for (int i = 0; i < 5; i++) due("17: of twelve", s.near(5, i), i);
        s.query(110, 0, 0);
        for (int i = 0; i < 5; i++) due("17: of twelve, from the other end", s.near(5, i), 11 - i);
        s.query(60, 0, 0);
        int[] due = {6, 5, 7, 4, 8};
        for (int i = 0; i < 5; i++) due("17: of twelve, from the middle", s.near(5, i), due[i]);
        NearTest.rule(s, "fits 0;adds 0;");
        due("17: none FITS: all are READ", s.near(5, 5), 12);
        due("17: none FITS", s.near(5, 9), 0);
    }

    /** Promises 18 and 19. */
    private static void withinAndRank() {
        VectorShelf s = twelve();
        for (int i = 0; i < 12; i++) {
            int r = 100 * i * i;
            due("18: just as FAR", s.within(r, 0), i + 1);
            due("18: just as FAR", s.within(r, 1), (2 << i) - 1);
            if (i > 0) due("18: 1 less", s.within(r - 1, 1), (1 << i) - 1);
            due("19: rank(" + i + ")", s.rank(i), i);
        }
        due("18: the greatest r", s.within(999999999, 1), 4095);
        due("18: none is there", new VectorShelf().within(999999999, 0), 0);
        due("18: none is there", new VectorShelf().within(0, 1), 0);
        VectorShelf t = at(-999);
        t.query(999, 0, 0);
        for (int what = 4; what < 7; what++) t.set(what, 9);
        t.set(3, 1);
        NearTest.rule(t, "fits 1;adds 99;");
        int far = 9 * 1998 * 1998 + 99;
        due("18: a great FAR", t.within(far, 0), 1);
        due("18: 1 less", t.within(far - 1, 0), 0);
        s.query(110, 0, 0);
        for (int i = 0; i < 12; i++) due("19: from the other end", s.rank(i), 11 - i);
    }

    /** Promises 20 and 21: none, one, two THERE; like ones. */
    private static void friendAndPair() {
        VectorShelf s = at(5);
        due("20: the only one", s.friend(0, 0), -1);
        due("20: by none", s.friend(0, 1), 0);
        due("21: the only one", s.pair(0), -1);
        due("21: the only one", s.pair(1), -1);
        due("21: the only one", s.pair(2), -1);
        s.vector(5, 0, 0, 0);
        due("20: at the same PLACE", s.friend(0, 0), 1);
        due("20: at the same PLACE", s.friend(1, 0), 0);
        due("20: of each other", s.friend(0, 1), 2);
        due("21: the lesser", s.pair(0), 0);
        due("21: the other", s.pair(1), 1);
        due("21: not APART", s.pair(2), 0);
        s.set(3, 4);
        due("21: APART by MOST", s.pair(2), 1);
        s.drop(0, 1);
        due("20: DROPPED: who is THERE", s.friend(0, 0), 1);
        due("20: DROPPED: by none", s.friend(0, 1), 0);
        due("20: the other has none", s.friend(1, 0), -1);
        due("20: DROPPED is no FRIEND, nor has it one by this", s.friend(1, 1), 0);
        due("21: one is THERE", s.pair(1), -1);
        s.tidy(0);
        due("20: without a CELL", s.friend(0, 0), 1);
        VectorShelf t = twelve();
        for (int i = 0; i < 12; i++) {
            due("20: of twelve", t.friend(i, 0), i == 0 ? 1 : i - 1);
            due("20: of twelve, by", t.friend(i, 1), i == 0 ? 2 : i == 1 ? 5 : i == 11 ? 0 : 2 << i);
        }
        due("21: of like ones the lesser first", t.pair(0), 0);
        due("21: of like ones the lesser first", t.pair(1), 1);
        t.move(11, 105, 0, 0);
        due("21: the last two", t.pair(0), 10);
        due("21: the last two", t.pair(1), 11);
        due("21: the last two", t.pair(2), 25);
        VectorShelf u = at(0, 50, 60, 10);
        due("21: of like ones the lesser first", u.pair(0), 0);
        due("21: then the other", u.pair(1), 3);
        VectorShelf v = at(0, 10, 20, -10);
        due("21: of like lesser ones the other", v.pair(1), 1);
    }

    /** Promise 22: all twelve, like ones, places that are the same. */
    private static void spread() {
        VectorShelf s = twelve();
        int[] due = {0, 11, 5, 8, 2, 1, 3, 4, 6, 7, 9, 10};
        for (int i = 0; i < 12; i++) due("22: of twelve, " + i, s.spread(i), due[i]);
        VectorShelf same = at(7, 7, 7);
        for (int i = 0; i < 3; i++) due("22: at the same PLACE, " + i, same.spread(i), i);
        due("22: fewer", same.spread(3), -1);
        same.drop(0, 1);
        due("22: the first that is THERE", same.spread(0), 1);
        due("22: fewer", same.spread(2), -1);
        same.drop(1, 1);
        same.drop(2, 1);
        due("22: none", same.spread(0), -1);
        due("22: none", same.spread(11), -1);
    }

    /** Promise 23: r just as much, 1 less; none THERE; places that are the same; MOST, where one is 1 from itself. */
    private static void cover() {
        VectorShelf s = twelve();
        due("23: 0, each its own", s.cover(0, 1), 4095);
        due("23: 99, each its own", s.cover(99, 0), 12);
        due("23: 100, three by one", s.cover(100, 0), 4);
        due("23: 100, three by one", s.cover(100, 1), 2 + 16 + 128 + 1024);
        due("23: 3599, the middle ones do not do", s.cover(3599, 0), 2);
        due("23: 3600, one does", s.cover(3600, 0), 1);
        due("23: 3600, the least as bits", s.cover(3600, 1), 32);
        due("23: 12100, the first does", s.cover(12100, 1), 1);
        due("23: 12099, the second does", s.cover(12099, 1), 2);
        VectorShelf same = at(7, 7, 7);
        due("23: at the same PLACE", same.cover(0, 1), 1);
        same.drop(0, 1);
        due("23: by one that is THERE", same.cover(0, 1), 2);
        same.set(3, 4);
        due("23: MOST, 0", same.cover(0, 0), -1);
        due("23: MOST, 0", same.cover(0, 1), -1);
        due("23: MOST, 1", same.cover(1, 1), 2);
        same.drop(1, 1);
        same.drop(2, 1);
        due("23: MOST, none THERE", same.cover(0, 0), 0);
        due("23: MOST, none THERE", same.cover(0, 1), 0);
        VectorShelf t = at(0, 10, 20, 30);
        due("23: of like ones the least as bits", t.cover(100, 1), 1 + 4);
    }

    /** Promise 24: two of two, of twelve, of like ones. */
    private static void two() {
        VectorShelf s = at(3, 9);
        int[] due = {0, 1, 0};
        for (int what = 0; what < 3; what++) due("24: two of two, " + what, s.two(what), due[what]);
        s.drop(0, 1);
        for (int what = 0; what < 3; what++) due("24: one is THERE, " + what, s.two(what), -1);
        VectorShelf t = twelve();
        // From 2 or 3, and 8 or 9: two times 100 and 400, of one side 900 once more.
        due("24: of twelve, the lesser", t.two(0), 2);
        due("24: of twelve, the other", t.two(1), 8);
        due("24: of twelve, what it comes to", t.two(2), 3800);
        VectorShelf same = at(7, 7, 7);
        due("24: at the same PLACE", same.two(0), 0);
        due("24: at the same PLACE", same.two(1), 1);
        due("24: at the same PLACE", same.two(2), 0);
        same.set(3, 4);
        due("24: MOST: 1 for each", same.two(2), 3);
    }

    /** Promise 25: as many rounds as are left till 20 and from there on. */
    private static void rounds() {
        VectorShelf s = new VectorShelf();
        for (int x : new int[] {92, 70, 97, 104}) s.cell(x, 0, 0);
        for (int x : new int[] {-55, 30, 60, -174, 64, 73, -26, 65, 76, 85, -12, 68}) s.vector(x, 0, 0, 0);
        for (int made = 0; made < 23; made++) {
            due("25: behind " + made, s.rounds(0), Math.max(1, Math.min(20, 21 - made)));
            due("25: the sum behind " + made, s.rounds(1), 1397);
            s.centre();
        }
        VectorShelf t = at(999);
        for (int i = 0; i < 11; i++) t.vector(i % 2 == 0 ? -999 : 999, i % 3 == 0 ? 999 : -999, 999, 0);
        t.move(0, 999, -999, -999);
        long sum = 0;
        for (int i = 0; i < 12; i++) {
            int[] middle = {0, -333, 832};
            for (int c = 0; c < 3; c++) sum += (long) (t.told(i, c) - middle[c]) * (t.told(i, c) - middle[c]);
        }
        due("25: two rounds", t.rounds(0), 2);
        due("25: a great sum", t.rounds(1), sum);
        VectorShelf none = new VectorShelf();
        none.cell(1, 2, 3);
        due("25: none THERE", none.rounds(0), 1);
        due("25: none THERE", none.rounds(1), 0);
    }

    /** Promise 26: 1 and 40 steps, g at its bounds and 0, each COORDINATE, the bounds themselves. */
    private static void goes() {
        for (int i = 0; i < 3; i++) {
            VectorShelf s = new VectorShelf();
            s.cell(0, 0, 0);
            s.vector(0, 0, 0, 0);
            s.vector(i == 0 ? 80 : 0, i == 1 ? 80 : 0, i == 2 ? 80 : 0, 0);
            due("26: 41 would be it", s.goes(i, 1), -1);
            due("26: along another one", s.goes((i + 1) % 3, 1), -1);
            s.query(i == 0 ? 1 : 0, i == 1 ? 1 : 0, i == 2 ? 1 : 0);
            due("26: 40", s.goes(i, 1), 40);
            due("26: 99", s.goes(i, 99), 1);
            due("26: -99", s.goes(i, -99), -1);
            due("26: 0", s.goes(i, 0), -1);
            s.query(i == 0 ? 139 : 0, i == 1 ? 139 : 0, i == 2 ? 139 : 0);
            due("26: -99, just between", s.goes(i, -99), 1);
            due("26: -9, behind 11", s.goes(i, -9), 11);
            for (int bound : new int[] {-999, 999}) {
                int g = bound < 0 ? -1 : 1;
                s.query(i == 0 ? bound : 0, i == 1 ? bound : 0, i == 2 ? bound : 0);
                due("26: leaves at once", s.goes(i, g), -1);
                due("26: comes back", s.goes(i, -g), -1);
            }
        }
        VectorShelf t = at(999, -999);
        t.query(-999, 0, 0);
        due("26: far on", t.goes(0, 50), 20);
        due("26: not far enough", t.goes(0, 24), -1);
        due("26: 40 steps of 25 are just there", t.goes(0, 25), 40);
        t.query(999, 0, 0);
        due("26: the other way behind 40", t.goes(0, -25), 40);
        due("26: just between, the first stays", t.goes(0, -27), 38);
        t.query(-999, 0, 0);
        due("26: just between, the first comes", t.goes(0, 27), 37);
        VectorShelf u = at(998, 999);
        u.query(998, 0, 0);
        due("26: at the bound itself", u.goes(0, 1), 1);
        due("26: beyond it", u.goes(0, 2), -1);
        VectorShelf none = at();
        due("26: NONE now, NONE then", none.goes(0, 99), -1);
        NearTest.rule(u, "fits 0;adds 0;");
        due("26: none FITS", u.goes(0, 1), -1);
    }

    /** Promises 27 to 29. */
    private static void costsToDrawn() {
        VectorShelf one = at(5);
        due("27: 1 over 1", one.costs(0), 1);
        due("27: 1 over 1", one.costs(1), 1);
        VectorShelf s = twelve();
        NearTest.rule(s, "fits 0;adds 0;");
        due("27: all are READ by each", s.costs(0), 12);
        due("27: all are READ by each", s.costs(1), 1);
        s.force(0);
        s.drop(3, 1);
        due("27: who is DROPPED counts not", s.costs(1) == 12 ? 1 : 0, 0);
        VectorShelf none = new VectorShelf();
        for (int m = 1; m < 21; m++) {
            due("28: nothing READ of " + m, none.lot(0, m, 0, 0), 0);
            due("28: nothing READ of " + m, none.lot(0, m, 0, 1), 1);
            due("28: all, of " + m, one.lot(MAX - 3, m, 0, 0), 1);
            due("28: all, of " + m, one.lot(MAX - 3, m, 0, 1), 1);
        }
        due("28: no more than 1 is READ", one.lot(0, 20, 1, 0), 0);
        NearTest.rule(s, "fits 0;adds 0;");
        s.drop(3, 0);
        due("28: 12 are more than 11", s.lot(0, 20, 11, 0), 1);
        due("28: 12 are no more than 12", s.lot(0, 20, 12, 0), 0);
        int[][] seeds = {{42, 0, 999}, {123, 0, -999}, {13774, 1, 999}, {2314, 1, -999}, {3579, 2, 999}, {5958, 2, -999}};
        for (int[] r : seeds) due("29: the bound, " + r[1], s.drawn(r[0], r[1]), r[2]);
        int[][] drawn = {{0, -975, 692, 525}, {1, -594, 883, 226}, {-1, -553, -303, 21}, {MAX, -955, 99, 423}, {MIN, -573, 290, 123}};
        for (int[] r : drawn) {
            for (int i = 0; i < 3; i++) due("29: SEED " + r[0] + ", " + i, s.drawn(r[0], i), r[1 + i]);
        }
    }

    /** Promise 28: the seed behind 2147483647 is -2147483648. */
    private static void lotWraps() {
        // Who is nearer to x -999 costs 1, else 2 are READ.
        VectorShelf s = new VectorShelf();
        s.cell(-999, 0, 0);
        s.cell(999, 0, 0);
        s.vector(-999, 0, 0, 0);
        s.vector(999, 0, 0, 0);
        s.vector(999, 0, 0, 0);
        int dear = 0;
        for (int m = 1; m < 21; m++) {
            int seed = m < 10 ? MAX - 9 + m : MIN + m - 10;
            dear += s.drawn(seed, 0) > 0 ? 1 : 0;
            long above = s.lot(MAX - 8, m, 1, 0);
            long below = s.lot(MAX - 8, m, 1, 1);
            due("28: of " + m + " from MAX - 8", above * m, below * dear);
        }
    }

    /** Promises 30 and 31: 0, 1 and 12 numbers, of each sort; a film of what it then tells. */
    private static void tellsAndFilm() {
        VectorShelf s = twelve();
        due("31: twelve", s.film(0, 12), 12);
        items("31: each its own first", s, 0, 0, 1, 2, 3, 4, 5, 6, 7, 8, 9, 10, 11);
        int[] own = {-1, 63, 1, 1022, 0};
        for (int what = 0; what < 5; what++) due("30: twelve, " + what, s.tells(0, what), own[what]);
        for (int sort = 0; sort < 3; sort++) {
            row(s, 1, sort, 0, 1, 2, 3, 4, 5, 6, 7, 8, 9, 10, 11);
            for (int what = 0; what < 5; what++) due("30: of sort " + sort + ", " + what, s.tells(1, what), own[what]);
            s.put(1, 11, 10);
            int[] last = {11, 0, 0, 0, 2048};
            for (int what = 0; what < 5; what++) due("30: the last is otherwise, " + what, s.tells(1, what), last[what]);
            s.put(1, 0, 1);
            int[] both = {0, 0, 0, 0, 0};
            for (int what = 0; what < 5; what++) due("30: the first is otherwise, " + what, s.tells(1, what), both[what]);
            row(s, 1, sort, 1);
            int[] one = {0, 0, 0, 0, 1};
            for (int what = 0; what < 5; what++) due("30: one number, " + what, s.tells(1, what), one[what]);
            row(s, 1, sort);
            int[] none = {-1, 63, 1, 1022, 4095};
            for (int what = 0; what < 5; what++) due("30: no number, " + what, s.tells(1, what), none[what]);
            s.sheet(1, sort, 13);
            for (int what = 0; what < 5; what++) due("30: thirteen, " + what, s.tells(1, what), -2);
        }
        VectorShelf t = new VectorShelf();
        due("31: of none", t.film(3, 2), 2);
        items("31: NONE", t, 3, -1, -1);
        int[] none = {-1, 63, 1, 1022, 0};
        for (int what = 0; what < 5; what++) due("30: NONE, " + what, t.tells(3, what), none[what]);
        due("31: a row of none", t.film(3, 0), 0);
        due("31: a row of none is not missing", t.tells(3, 0), -1);
        items("31: a row of none", t, 3);
        t.sheet(3, 0, 40);
        t.film(3, 1);
        due("31: shorts", t.blank(3, 0), -13);
        items("31: as many as told", t, 3, -1);
    }

    /** Promises 32 and 33: an image of none, of all; kept again; laid back again. */
    private static void images() {
        VectorShelf s = twelve();
        due("32: twelve", s.image(), 12);
        s.drop(0, 1);
        s.tidy(0);
        due("33: twelve", s.back(), 12);
        due("33: THERE again", s.count(2), 12);
        due("33: with its CELL again", s.told(0, 5), 0);
        due("3: FULL", s.vector(0, 0, 0, 0), -4);
        due("2: FULL", s.cell(0, 0, 0), -4);
        VectorShelf t = new VectorShelf();
        due("32: none", t.image(), 0);
        for (int i = 0; i < 4; i++) t.cell(i, i, i);
        for (int i = 0; i < 12; i++) t.vector(i, i, i, i);
        due("33: none", t.back(), 0);
        due("33: no CELL", t.count(1), 0);
        due("13: STATE", t.centre(), -3);
        for (int i = 0; i < 4; i++) due("2: room again", t.cell(9, 9, 9), i);
        due("33: empty BOXES", t.holds(0, 3), -99999);
        for (int i = 0; i < 12; i++) due("3: room again", t.vector(-i, -i, -i, -i), i);
        due("33: another PLACE", t.told(11, 0), -11);
        due("33: another TAG", t.told(11, 3), -11);
        due("33: THERE", t.told(11, 4), 0);
        due("33: the same IMAGE again", t.back(), 0);
        due("33: texts come not back", t.count(3), 1);
    }

    /** Promises 35 to 38: 0, 1 and 40 items of each sort; wrap-arounds; FLOATS. */
    private static void sheets() {
        VectorShelf s = new VectorShelf();
        for (int sort = 0; sort < 3; sort++) {
            for (int n : new int[] {0, 1, 40}) {
                s.sheet(0, sort, 40);
                for (int i = 0; i < 40; i++) due("36: item " + i, s.put(0, i, i + 1), 1);
                due("35: " + n + " of sort " + sort, s.sheet(0, sort, n), 1);
                for (int i = 0; i < n; i++) due("35: all 0", s.item(0, i), 0);
                due("38: no such item", s.item(0, n), -99999);
                due("36: -12", s.put(0, n, 1), -12);
                due("37: the place behind the last", s.blank(0, n), sort == 0 ? -12 : -13);
                if (n > 0) due("36: the last", s.put(0, n - 1, 9), 1);
                if (n > 0) due("38: the last", s.item(0, n - 1), 9);
            }
            for (int n : new int[] {MIN, -1, 0, 41, MAX}) {
                due("35: missing, n " + n, s.sheet(0, -1, n), 1);
                due("38: missing", s.item(0, 0), -99999);
                due("36: missing", s.put(0, 0, 0), -11);
                due("35: missing again", s.sheet(0, -1, n), 1);
                s.sheet(0, sort, 2);
            }
        }
        int[] put = {127, 128, -128, -129, 255, 256, 32767, 32768, -32768, -32769, 65535, 65536, MAX, MIN, -1, 0};
        int[] bytes = {127, -128, -128, 127, -1, 0, -1, 0, 0, -1, -1, 0, -1, 0, -1, 0};
        int[] shorts = {127, 128, -128, -129, 255, 256, 32767, -32768, -32768, 32767, -1, 0, -1, 0, -1, 0};
        row(s, 1, 1, put);
        items("36: the lowest 8 bits", s, 1, bytes);
        row(s, 2, 2, put);
        items("36: the lowest 16 bits", s, 2, shorts);
        row(s, 3, 0, 16777216, 16777217, 16777218, 16777219, -16777217, -16777219, 2147483583, 2147483584, MAX, MIN, MIN + 64, 1, -1, 3);
        items("36: turned to a float", s, 3, 16777216, 16777216, 16777218, 16777220, -16777216, -16777220, 2147483520, MAX, MAX,
            MIN, MIN, 1, -1, 3);
        for (int i = 0; i < 14; i++) due("37: item " + i, s.blank(3, i), 1);
        for (int i = 0; i < 14; i++) due("38: NO NUMBER", s.item(3, i), 0);
        due("37: again", s.blank(3, 13), 1);
    }

    /** Promises 39 and 40. */
    private static void copyAndRest() {
        VectorShelf s = new VectorShelf();
        for (int sort = 0; sort < 3; sort++) {
            s.sheet(0, sort, 40);
            s.sheet(1, sort, 40);
            for (int i = 0; i < 40; i++) s.put(0, i, i + 1);
            due("39: 40", s.copy(0, 0, 1, 0, 40), 40);
            due("39: the first", s.item(1, 0), 1);
            due("39: the last", s.item(1, 39), 40);
            due("39: the last to the first", s.copy(0, 39, 1, 0, 1), 1);
            due("39: the last to the first", s.item(1, 0), 40);
            due("39: no more than that", s.item(1, 1), 2);
            due("39: none at the ends", s.copy(0, 40, 1, 40, 0), 0);
            due("39: none at the beginnings", s.copy(0, 0, 1, 0, 0), 0);
            due("39: none changes nothing", s.item(1, 39), 40);
            due("39: upon itself, forward", s.copy(0, 0, 0, 1, 39), 39);
            due("39: as they were", s.item(0, 39), 39);
            due("39: as they were", s.item(0, 1), 1);
            due("39: upon itself, backward", s.copy(0, 1, 0, 0, 39), 39);
            due("39: as they were", s.item(0, 38), 39);
            s.sheet(0, sort, 0);
            due("39: rows of none", s.copy(0, 0, 0, 0, 0), 0);
            due("39: rows of none", s.copy(0, 0, 1, 0, 1), -12);
        }
        int[] some = {-128, -127, -100, -7, -3, -1, 1, 3, 7, 100, 127};
        row(s, 2, 1, some);
        for (int i = 0; i < some.length; i++) {
            for (int j = 0; j < some.length; j++) {
                int left = Math.floorMod(Math.abs(some[i]), Math.abs(some[j]));
                due("40: " + some[i] + " by " + some[j], s.rest(2, i, j), some[i] < 0 ? -left : left);
            }
        }
        due("40: nothing becomes otherwise", s.item(2, 0), -128);
    }

    /** Promise 41: none to twelve, to the very end, in the middle of a four, what is left out. */
    private static void shelve() {
        for (int sort = 0; sort < 3; sort++) {
            VectorShelf s = at();
            s.sheet(0, sort, 40);
            for (int i = 0; i < 40; i++) s.put(0, i, i - 20);
            due("41: none", s.shelve(0, sort, 0, 0), 0);
            due("41: none, from wherever", s.shelve(0, sort, 40, 0), 0);
            due("41: none, from wherever", s.shelve(0, sort, -1, 0), 0);
            due("41: to the very end", s.shelve(0, sort, 36, 1), 1);
            due("41: the last of it", s.told(0, 3), 19);
            due("41: one short", s.shelve(0, sort, 37, 1), -12);
            due("41: one short changes nothing", s.count(0), 1);
            due("41: ten are there, eleven asked", s.shelve(0, sort, 0, 11), -12);
            due("41: what stood ahead came", s.count(0), 11);
            due("41: the tenth of them", s.told(10, 0), 16);
            due("41: twelve is FULL, the others are left out", s.shelve(0, sort, 0, 10), 1);
            due("41: twelve", s.count(0), 12);
            due("41: all are left out", s.shelve(0, sort, 0, 10), 0);
            due("41: left out, then -12", s.shelve(0, sort, 4, 10), -12);
            s.sheet(0, sort, 0);
            due("41: none of a row of none", s.shelve(0, sort, 0, 0), 0);
            due("41: one of a row of none", s.shelve(0, sort, 0, 1), -12);
            s.sheet(0, sort, 3);
            due("41: one of a row of three", s.shelve(0, sort, 0, 1), -12);
        }
        VectorShelf t = at();
        row(t, 0, 2, 999, -999, 999, 99, 1000, 0, 0, 0, 0, -1000, 0, 0, 0, 0, 1000, 0, 0, 0, 0, 100, 0, 0, 0, -100, -999, 999, -999, -99);
        due("41: what vector() refuses is left out", t.shelve(0, 2, 0, 7), 2);
        due("41: the second that came", t.told(1, 0), -999);
        due("41: the second that came", t.told(1, 3), -99);
        row(t, 1, 1, 127, -128, 0, 99, 127, -128, 0, 100, 1, 1, 1, -100, 1, 1, 1, -99);
        due("41: bytes", t.shelve(1, 1, 0, 4), 2);
        row(t, 2, 0, 999, -999, 0, 99, 1000, 0, 0, 0, 5, 5, 5, 5);
        for (int i = 8; i < 12; i++) t.blank(2, i);
        due("41: floats", t.shelve(2, 0, 0, 3), 2);
        for (int what = 0; what < 4; what++) due("41: NO NUMBER tells 0", t.told(5, what), 0);
        VectorShelf none = new VectorShelf();
        none.sheet(0, 1, 40);
        due("41: no CELL", none.shelve(0, 1, 0, 10), 0);
        due("41: no CELL, then -12", none.shelve(0, 1, 0, 12), -12);
        VectorShelf twelve = at();
        twelve.sheet(0, 1, 40);
        due("41: twelve asked, ten are there", twelve.shelve(0, 1, 0, 12), -12);
        due("41: ten came", twelve.count(0), 10);
        due("41: the others", twelve.shelve(0, 1, 20, 5), 2);
    }

    /** Promises 42 and 43. */
    private static void askAndCode() {
        int[] items = {999, 1000, 1001, -999, -1000, -1001, 1999, -1999, 250, -250, 0, 123456, -123456};
        int[] tell = {999, 0, 1, -999, 0, -1, 999, -999, 250, -250, 0, 456, -456};
        VectorShelf s = at();
        s.set(3, 2);
        s.vector(-999, -999, -999, 0);
        s.sheet(0, 0, 40);
        for (int n = 0; n < items.length; n++) {
            for (int i = 0; i < 3; i++) {
                for (int other = 0; other < 3; other++) s.put(0, 37 + other, -999);
                s.put(0, 37 + i, items[n]);
                due("42: to the very end", s.ask(0, 37), 1);
                due("42: rest of " + items[n], s.told(0, 11), 4 * (999 + tell[n]));
                s.blank(0, 37 + i);
                s.ask(0, 37);
                due("42: NO NUMBER", s.told(0, 11), 4 * 999);
            }
        }
        due("42: none FITS", new VectorShelf().count(6), 0);
        VectorShelf none = new VectorShelf();
        none.sheet(0, 0, 3);
        due("42: three are enough", none.ask(0, 0), 0);
        none.sheet(0, 0, 2);
        due("42: two are not", none.ask(0, 0), -12);
        VectorShelf t = at(-17, 40);
        t.sheet(0, 1, 40);
        due("43: to the very end", t.code(0, 0, 37), 3);
        due("43: CODE", t.item(0, 37), -2);
        due("43: from the beginning", t.code(1, 0, 0), 3);
        due("43: CODE", t.item(0, 0), 2);
        due("43: no more than three", t.item(0, 3), 0);
        t.sheet(0, 1, 3);
        due("43: three are enough", t.code(1, 0, 0), 3);
        t.sheet(0, 1, 2);
        due("43: two are not", t.code(1, 0, 0), -12);
    }

    public static void main(String[] args) {
        lastNumbers();
        move();
        drop();
        near();
        withinAndRank();
        friendAndPair();
        spread();
        cover();
        two();
        rounds();
        goes();
        costsToDrawn();
        lotWraps();
        tellsAndFilm();
        images();
        sheets();
        copyAndRest();
        shelve();
        askAndCode();
        CHECK.end();
    }
}
