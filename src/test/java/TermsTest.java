/** The edges that Terms 1 and 2 name: measures in whole numbers and in floats, cells, boxes, spans, reading. */
public final class TermsTest {
    private static final Check CHECK = new Check();

    private static void due(String call, long got, long want) {
        CHECK.due(call, got, want);
    }

    private static void setAll(VectorShelf s, int... settings) {
        for (int what = 0; what < settings.length; what++) s.set(what, settings[what]);
    }

    private static void rule(VectorShelf s, String text) {
        NearTest.rule(s, text);
    }

    /** The coordinate i of a place of one number and two others. */
    private static int[] at(int i, int there, int others) {
        return new int[] {i == 0 ? there : others, i == 1 ? there : others, i == 2 ? there : others};
    }

    private static int cell(VectorShelf s, int[] p) {
        return s.cell(p[0], p[1], p[2]);
    }

    private static int vector(VectorShelf s, int[] p) {
        return s.vector(p[0], p[1], p[2], 0);
    }

    private static int query(VectorShelf s, int[] p) {
        return s.query(p[0], p[1], p[2]);
    }

    /** Terms 1: -999 and 999 are COORDINATES, each of the three, of whatever has a PLACE. */
    private static void coordinates() {
        for (int i = 0; i < 3; i++) {
            for (int bound : new int[] {-999, 999}) {
                VectorShelf s = new VectorShelf();
                int[] p = at(i, bound, 0);
                due("T1: CENTRE at " + bound, cell(s, p), 0);
                due("T1: CENTRE told", s.holds(0, i), bound);
                due("T1: VECTOR at " + bound, vector(s, p), 0);
                due("T1: PLACE told", s.told(0, i), bound);
                due("T1: THE QUERY at " + bound, query(s, p), 1);
                due("T1: THE QUERY told", s.told(0, 11), 0);
                due("T1: moved to the other bound", s.move(0, -p[0], -p[1], -p[2]), 0);
                due("T1: PLACE told", s.told(0, i), -bound);
                due("T1: THE QUERY stays", s.told(0, 11), 1998 * 1998);
            }
        }
    }

    /** Terms 1: what stands in a new one ahead of all. */
    private static void atFirst() {
        due("T1: NONE", VectorShelf.NONE, -1);
        due("T1: BAD", VectorShelf.BAD, -2);
        due("T1: STATE", VectorShelf.STATE, -3);
        due("T1: FULL", VectorShelf.FULL, -4);
        due("T1: NO", VectorShelf.NO, -4611686018427387904L);
        for (int i = 0; i < 3; i++) {
            VectorShelf s = new VectorShelf();
            s.cell(0, 0, 0);
            vector(s, at(i, 2, 0));
            due("T1: THE QUERY at first, COORDINATE " + i, s.told(0, 11), 4);
        }
    }

    /** Kind, three weights, slack, cap, three differences, how far apart, LOW cut. */
    private static void measures() {
        int[][] rows = {
            // KIND 0, WEIGHTS 1 1 1, SLACK 0, CAP 999999
            {0, 1, 1, 1, 0, 999999, 0, 0, 0, 0, 0},
            {0, 1, 1, 1, 0, 999999, 1, 0, 0, 1, 0},
            {0, 1, 1, 1, 0, 999999, 1998, 1998, 1998, 11976012, 11976001},
            {0, 1, 1, 1, 0, 999999, 1997, 1995, 1993, 11940083, 11940072},
            {0, 1, 1, 1, 0, 999999, 1998, 0, 1, 3992005, 3992001},
            {0, 1, 1, 1, 0, 999999, 0, 1998, 1997, 7980013, 7980005},
            // KIND 1, WEIGHTS 9 9 9, SLACK 0, CAP 999999
            {1, 9, 9, 9, 0, 999999, 0, 0, 0, 0, 0},
            {1, 9, 9, 9, 0, 999999, 1, 0, 0, 9, 8},
            {1, 9, 9, 9, 0, 999999, 1998, 1998, 1998, 107784108, 107784008},
            {1, 9, 9, 9, 0, 999999, 1997, 1995, 1993, 107460747, 107460640},
            {1, 9, 9, 9, 0, 999999, 1998, 0, 1, 35928045, 35928008},
            {1, 9, 9, 9, 0, 999999, 0, 1998, 1997, 71820117, 71820040},
            // KIND 1, WEIGHTS 9 7 5, SLACK 0, CAP 999999
            {1, 9, 7, 5, 0, 999999, 0, 0, 0, 0, 0},
            {1, 9, 7, 5, 0, 999999, 1, 0, 0, 9, 8},
            {1, 9, 7, 5, 0, 999999, 1998, 1998, 1998, 83832084, 83832000},
            {1, 9, 7, 5, 0, 999999, 1997, 1995, 1993, 83612501, 83612416},
            {1, 9, 7, 5, 0, 999999, 1998, 0, 1, 35928041, 35928004},
            {1, 9, 7, 5, 0, 999999, 0, 1998, 1997, 47884073, 47884028},
            // KIND 2, WEIGHTS 1 1 1, SLACK 0, CAP 999999
            {2, 1, 1, 1, 0, 999999, 0, 0, 0, 0, 0},
            {2, 1, 1, 1, 0, 999999, 1, 0, 0, 4, 3},
            {2, 1, 1, 1, 0, 999999, 1998, 1998, 1998, 23976, 23975},
            {2, 1, 1, 1, 0, 999999, 1997, 1995, 1993, 23940, 23939},
            {2, 1, 1, 1, 0, 999999, 1998, 0, 1, 7996, 7995},
            {2, 1, 1, 1, 0, 999999, 0, 1998, 1997, 15980, 15979},
            // KIND 3, WEIGHTS 9 8 7, SLACK 99, CAP 999999
            {3, 9, 8, 7, 99, 999999, 0, 0, 0, 0, 0},
            {3, 9, 8, 7, 99, 999999, 1, 0, 0, 0, 0},
            {3, 9, 8, 7, 99, 999999, 1998, 1998, 1998, 86548824, 86548744},
            {3, 9, 8, 7, 99, 999999, 1997, 1995, 1993, 86290816, 86290736},
            {3, 9, 8, 7, 99, 999999, 1998, 0, 1, 32455809, 32455778},
            {3, 9, 8, 7, 99, 999999, 0, 1998, 1997, 54066436, 54066384},
            // KIND 3, WEIGHTS 9 9 9, SLACK 1, CAP 999999
            {3, 9, 9, 9, 1, 999999, 0, 0, 0, 0, 0},
            {3, 9, 9, 9, 1, 999999, 1, 0, 0, 0, 0},
            {3, 9, 9, 9, 1, 999999, 1998, 1998, 1998, 107676243, 107676136},
            {3, 9, 9, 9, 1, 999999, 1997, 1995, 1993, 107353044, 107352936},
            {3, 9, 9, 9, 1, 999999, 1998, 0, 1, 35892081, 35892044},
            {3, 9, 9, 9, 1, 999999, 0, 1998, 1997, 71748225, 71748152},
            // KIND 4, WEIGHTS 9 9 9, SLACK 50, CAP 5
            {4, 9, 9, 9, 50, 5, 0, 0, 0, 1, 0},
            {4, 9, 9, 9, 50, 5, 1, 0, 0, 5, 4},
            {4, 9, 9, 9, 50, 5, 1998, 1998, 1998, 7993, 7992},
            {4, 9, 9, 9, 50, 5, 1997, 1995, 1993, 7989, 7988},
            {4, 9, 9, 9, 50, 5, 1998, 0, 1, 7993, 7992},
            {4, 9, 9, 9, 50, 5, 0, 1998, 1997, 7993, 7992},
            // KIND 5, WEIGHTS 9 9 9, SLACK 0, CAP 999999
            {5, 9, 9, 9, 0, 999999, 0, 0, 0, 0, 0},
            {5, 9, 9, 9, 0, 999999, 1, 0, 0, 9, 8},
            {5, 9, 9, 9, 0, 999999, 1998, 1998, 1998, 999999, 999998},
            {5, 9, 9, 9, 0, 999999, 1997, 1995, 1993, 999999, 999998},
            {5, 9, 9, 9, 0, 999999, 1998, 0, 1, 999999, 999998},
            {5, 9, 9, 9, 0, 999999, 0, 1998, 1997, 999999, 999998},
            // KIND 5, WEIGHTS 3 5 7, SLACK 1, CAP 10
            {5, 3, 5, 7, 1, 10, 0, 0, 0, 0, 0},
            {5, 3, 5, 7, 1, 10, 1, 0, 0, 0, 0},
            {5, 3, 5, 7, 1, 10, 1998, 1998, 1998, 10, 9},
            {5, 3, 5, 7, 1, 10, 1997, 1995, 1993, 10, 9},
            {5, 3, 5, 7, 1, 10, 1998, 0, 1, 10, 9},
            {5, 3, 5, 7, 1, 10, 0, 1998, 1997, 10, 9},
            // KIND 5, WEIGHTS 1 1 1, SLACK 0, CAP 0
            {5, 1, 1, 1, 0, 0, 0, 0, 0, 0, 0},
            {5, 1, 1, 1, 0, 0, 1, 0, 0, 0, 0},
            {5, 1, 1, 1, 0, 0, 1998, 1998, 1998, 0, 0},
            {5, 1, 1, 1, 0, 0, 1997, 1995, 1993, 0, 0},
            {5, 1, 1, 1, 0, 0, 1998, 0, 1, 0, 0},
            {5, 1, 1, 1, 0, 0, 0, 1998, 1997, 0, 0},
            // KIND 5, WEIGHTS 1 1 1, SLACK 0, CAP 1
            {5, 1, 1, 1, 0, 1, 0, 0, 0, 0, 0},
            {5, 1, 1, 1, 0, 1, 1, 0, 0, 1, 0},
            {5, 1, 1, 1, 0, 1, 1998, 1998, 1998, 1, 0},
            {5, 1, 1, 1, 0, 1, 1997, 1995, 1993, 1, 0},
            {5, 1, 1, 1, 0, 1, 1998, 0, 1, 1, 0},
            {5, 1, 1, 1, 0, 1, 0, 1998, 1997, 1, 0},
        };
        for (int[] r : rows) {
            VectorShelf s = new VectorShelf();
            s.cell(999, 999, 999);
            s.vector(999, 999, 999, 0);
            s.vector(999 - r[6], 999 - r[7], 999 - r[8], 0);
            setAll(s, 1, r[4], r[5], r[0], r[1], r[2], r[3]);
            String name = "T1: KIND " + r[0] + ", differences " + r[6] + ", " + r[7] + ", " + r[8];
            due(name + ", APART", s.apart(0, 1), r[9]);
            due(name + ", the other way", s.apart(1, 0), r[9]);
            s.drop(1, 1);
            s.tidy(0);
            s.query(999 - r[6], 999 - r[7], 999 - r[8]);
            due(name + ", FAR", s.told(0, 11), r[9]);
            due(name + ", LOW of the VECTOR", s.told(0, 12), r[10]);
            due(name + ", LOW of the CELL", s.holds(0, 9), r[10]);
        }
    }

    /** Terms 1: SLACK and CAP, where a difference is one less, as much, one more. */
    private static void slackAndCap() {
        VectorShelf s = new VectorShelf();
        s.cell(0, 0, 0);
        s.vector(0, 0, 0, 0);
        for (int d = 4; d < 8; d++) s.vector(d, 0, 0, 0);
        for (int kind : new int[] {3, 5}) {
            setAll(s, 16, 5, 999999, kind, 3);
            int[] due = {0, 0, 3, 12};
            for (int i = 0; i < 4; i++) due("T1: SLACK 5, difference " + (4 + i), s.apart(0, 1 + i), due[i]);
        }
        setAll(s, 16, 0, 36, 5, 1);
        int[] capped = {16, 25, 36, 36};
        for (int i = 0; i < 4; i++) due("T1: CAP 36, difference " + (4 + i), s.apart(0, 1 + i), capped[i]);
        s.set(2, 35);
        due("T1: CAP 35", s.apart(0, 3), 35);
        s.set(2, 37);
        due("T1: CAP 37", s.apart(0, 3), 36);
        s.set(2, 0);
        due("T1: CAP 0", s.apart(0, 4), 0);
        for (int kind = 0; kind < 5; kind++) {
            setAll(s, 16, 0, 0, kind, 1);
            int[] due = {49, 49, 28, 49, 29};
            due("T1: no CAP of KIND " + kind, s.apart(0, 4), due[kind]);
        }
        for (int kind : new int[] {0, 1, 2, 4}) {
            setAll(s, 16, 99, 999999, kind, 1);
            int[] due = {49, 49, 28, 0, 29};
            due("T1: no SLACK of KIND " + kind, s.apart(0, 4), due[kind]);
        }
    }

    /** Terms 1: each WEIGHT is of its COORDINATE; SQUARE, BLOCK and MOST have none. */
    private static void weights() {
        for (int kind = 0; kind < 6; kind++) {
            for (int i = 0; i < 3; i++) {
                VectorShelf s = new VectorShelf();
                s.cell(0, 0, 0);
                s.vector(0, 0, 0, 0);
                vector(s, at(i, 4, 0));
                setAll(s, 16, 0, 999999, kind, 1, 1, 1);
                int one = s.apart(0, 1);
                s.set(4 + i, 9);
                int nine = kind == 1 || kind == 3 || kind == 5 ? 9 : 1;
                due("T1: WEIGHT " + i + " of KIND " + kind, s.apart(0, 1), nine * one);
                due("T1: in FLOATS, too", s.told(1, 12), 0);
                query(s, at(i, 20, 0));
                s.set(0, 1);
                due("T1: in FLOATS, too", s.told(1, 12), kind == 2 ? 63 : kind == 4 ? 64 : nine * 256 - 1);
                s.set(4 + i, 1);
                s.set(4 + (i + 1) % 3, 9);
                s.set(4 + (i + 2) % 3, 9);
                due("T1: other WEIGHTS of KIND " + kind, s.apart(0, 1), one);
            }
        }
    }

    /** Terms 1: MOST takes the greatest, wherever it stands, and of like ones either. */
    private static void most() {
        int[][] ds = {{7, 3, 5}, {3, 7, 5}, {3, 5, 7}, {7, 7, 5}, {5, 7, 7}, {7, 5, 7}, {7, 7, 7}, {7, 0, 0}, {0, 0, 7}};
        for (int[] d : ds) {
            VectorShelf s = new VectorShelf();
            s.cell(d[0], d[1], d[2]);
            vector(s, d);
            vector(s, new int[] {0, 0, 0});
            s.set(3, 4);
            s.set(0, 1);
            due("T1: MOST", s.apart(0, 1), 29);
            due("T1: MOST in FLOATS", s.told(0, 12), 28);
        }
    }

    /** Terms 1: FLOATS are rounded to the nearest, of two to the even one; then HIGH is cut. */
    private static void rounding() {
        VectorShelf s = new VectorShelf();
        int[][] rows = {{0, 0}, {1, 1}, {2, 2}, {1048575, 1048576}, {1048576, 1048577}, {16777215, 16777230},
            {16777216, 16777232}, {16777217, 16777232}, {16777218, 16777234}, {16777219, 16777236}, {16777221, 16777236},
            {33554433, 33554464}, {33554434, 33554464}, {33554435, 33554468}, {33554438, 33554472}, {99999999, 100000096},
            {500000001, 500000480}, {999999967, 1000000896}, {999999968, 1000000960}, {999999999, 1000000960}};
        for (int[] row : rows) due("T1: HIGH of " + row[0], s.high(row[0]), row[1]);
    }

    /** Terms 1: who is AHEAD, of like ones whose number is less; PUSH counts, FITS decides, and being THERE. */
    private static void ahead() {
        VectorShelf s = new VectorShelf();
        s.cell(0, 0, 0);
        for (int i = 0; i < 7; i++) s.vector(5, 0, 0, i);
        for (int i = 0; i < 5; i++) due("T1: like ones by number", s.near(5, i), i);
        for (int i = 0; i < 7; i++) due("T1: rank of like ones", s.rank(i), i);
        rule(s, "fits 1;adds 6-tag;");
        for (int i = 0; i < 5; i++) due("T1: by PUSH", s.near(5, i), 6 - i);
        rule(s, "fits 1;adds 2 - tag;");
        int[] due = {2, 3, 4, 5, 6};
        for (int i = 0; i < 5; i++) due("T1: PUSH is 0 at least", s.near(5, i), due[i]);
        rule(s, "fits -1*(3<tag);adds 0;");
        s.drop(5, 1);
        due("T1: what is below 0 fits", s.near(5, 0), 4);
        due("T1: DROPPED ones do not", s.near(5, 1), 6);
        due("T1: no more fit", s.near(5, 2), -1);
        due("T1: two fit", s.count(6), 2);
    }

    /** Terms 2: the NEAREST CELL, by each COORDINATE, of like ones the first. */
    private static void nearestCell() {
        for (int i = 0; i < 3; i++) {
            VectorShelf s = new VectorShelf();
            for (int there : new int[] {-300, 100, 300, 100}) cell(s, at(i, there, 7));
            due("T2: nearest along " + i, s.told(vector(s, at(i, 290, 7)), 5), 2);
            due("T2: nearest along " + i, s.told(vector(s, at(i, -999, 7)), 5), 0);
            due("T2: of like ones the first", s.told(vector(s, at(i, 101, 7)), 5), 1);
            due("T2: just between two", s.told(vector(s, at(i, 200, 7)), 5), 1);
            due("T2: a step on", s.told(vector(s, at(i, 201, 7)), 5), 2);
            due("T2: just between two", s.told(vector(s, at(i, -100, 7)), 5), 0);
            due("T2: a step on", s.told(vector(s, at(i, -99, 7)), 5), 1);
        }
        VectorShelf s = new VectorShelf();
        s.cell(0, 0, 3);
        s.cell(2, 2, 0);
        due("T2: by squares", s.told(s.vector(0, 0, 0, 0), 5), 1);
        VectorShelf t = new VectorShelf();
        t.cell(999, 999, 999);
        t.cell(999, 999, 998);
        due("T2: as far as can be", t.told(t.vector(-999, -999, -999, 0), 5), 1);
    }

    /** Terms 2: a BOX is empty, then just a PLACE, then no more than it needs, of each COORDINATE. */
    private static void boxes() {
        for (int i = 0; i < 3; i++) {
            VectorShelf s = new VectorShelf();
            s.cell(0, 0, 0);
            due("T2: an empty BOX", s.holds(0, 3 + i), -99999);
            due("T2: an empty BOX", s.holds(0, 6 + i), -99999);
            int[] there = {5, 6, 4, 5, -3};
            int[] least = {5, 5, 4, 4, -3};
            int[] greatest = {5, 6, 6, 6, 6};
            for (int n = 0; n < 5; n++) {
                vector(s, at(i, there[n], 9));
                due("T2: least along " + i, s.holds(0, 3 + i), least[n]);
                due("T2: greatest along " + i, s.holds(0, 6 + i), greatest[n]);
                due("T2: least of another", s.holds(0, 3 + (i + 1) % 3), 9);
                due("T2: greatest of another", s.holds(0, 6 + (i + 2) % 3), 9);
            }
            s.set(3, 2);
            int[] q = {-999, -5, -4, -3, -2, 5, 6, 7, 8, 999};
            int[] low = {3983, 7, 3, 0, 0, 0, 0, 3, 7, 3971};
            for (int n = 0; n < q.length; n++) {
                query(s, at(i, q[n], 9));
                due("T2: OUTSIDE of the BOX along " + i + " at " + q[n], s.holds(0, 9), low[n]);
            }
        }
    }

    /** Terms 2: CODE and SPAN; centre, step, place, then CODE, least and greatest of the SPAN. */
    private static void spans() {
        int[][] rows = {
            {0, 16, 0, 0, 0, 15}, {0, 16, 15, 0, 0, 15}, {0, 16, 16, 1, 16, 31}, {0, 16, -1, -1, -16, -1},
            {0, 16, -16, -1, -16, -1}, {0, 16, -17, -2, -32, -17}, {10, 64, 9, -1, -54, 9}, {10, 64, 73, 0, 10, 73},
            {10, 64, 74, 1, 74, 137}, {0, 1, 126, 126, 126, 126}, {0, 1, 127, 127, 127, 999}, {0, 1, 128, 127, 127, 999},
            {0, 1, 999, 127, 127, 999}, {0, 1, -127, -127, -127, -127}, {0, 1, -128, -128, -999, -128},
            {0, 1, -129, -128, -999, -128}, {0, 1, -999, -128, -999, -128}, {-999, 15, 905, 126, 891, 905},
            {-999, 15, 906, 127, 906, 999}, {-999, 15, 999, 127, 906, 999}, {999, 15, -906, -127, -906, -892},
            {999, 15, -907, -128, -999, -907}, {999, 15, -921, -128, -999, -907}, {999, 15, -922, -128, -999, -907},
            {999, 16, -999, -125, -1001, -986}, {-999, 16, 999, 124, 985, 1000}, {999, 64, 999, 0, 999, 1062},
            {-999, 2, -745, 127, -745, 999}, {-999, 2, -746, 126, -747, -746},
        };
        for (int[] r : rows) {
            for (int i = 0; i < 3; i++) {
                VectorShelf s = new VectorShelf();
                cell(s, at(i, r[0], 0));
                s.set(0, r[1]);
                s.set(3, 2);
                vector(s, at(i, r[2], 0));
                String name = "T2: centre " + r[0] + ", STEP " + r[1] + ", at " + r[2] + ", along " + i;
                due(name + ", CODE", s.told(0, 6 + i), r[3]);
                due(name + ", CODE of another", s.told(0, 6 + (i + 1) % 3), 0);
                for (int edge = 0; edge < 4; edge++) {
                    int q = edge < 2 ? r[4] - edge : r[5] + edge - 2;
                    if (query(s, at(i, q, 0)) == 1) due(name + ", THE QUERY at " + q, s.told(0, 12), edge % 2 == 1 ? 3 : 0);
                }
            }
        }
    }

    /** Terms 2: CODE is told anew when CELL, PLACE, CENTRE or STEP is another one. */
    private static void codeAnew() {
        VectorShelf s = new VectorShelf();
        s.cell(0, 0, 0);
        s.vector(40, 40, 40, 0);
        due("T2: CODE", s.told(0, 6), 2);
        s.set(0, 10);
        due("T2: by another STEP", s.told(0, 6), 4);
        s.move(0, 59, 60, 61);
        due("T2: by another PLACE", s.told(0, 6), 5);
        due("T2: by another PLACE", s.told(0, 7), 6);
        s.cell(70, 70, 70);
        due("T2: not by a CELL that came", s.told(0, 6), 5);
        s.image();
        s.move(0, 59, 60, 61);
        due("T2: by another CELL", s.told(0, 6), -2);
        due("T2: by another CELL", s.told(0, 7), -1);
        s.centre();
        for (int i = 0; i < 3; i++) due("T2: by another CENTRE", s.told(0, 6 + i), 0);
        s.set(0, 1);
        s.back();
        due("T2: by AN IMAGE", s.told(0, 6), 5);
    }

    /** Terms 2: TIDIED where all, some, none of the CELL are DROPPED, and where none has it. */
    private static void tidied() {
        VectorShelf s = new VectorShelf();
        s.cell(0, 0, 0);
        due("T2: TIDIED without VECTORS", s.tidy(0), 0);
        due("T2: the BOX is empty", s.holds(0, 3), -99999);
        for (int i = 0; i < 12; i++) s.vector(i, -i, 2 * i, 0);
        due("T2: TIDIED with none DROPPED", s.tidy(0), 0);
        due("T2: the BOX is as it was", s.holds(0, 6), 11);
        s.drop(0, 1);
        s.drop(11, 1);
        due("T2: two", s.tidy(0), 2);
        int[] box = {1, -10, 2, 10, -1, 20};
        for (int what = 3; what < 9; what++) due("T2: the BOX of the others, " + what, s.holds(0, what), box[what - 3]);
        due("T2: how many have it", s.holds(0, 10), 10);
        for (int i = 1; i < 11; i++) s.drop(i, 1);
        due("T2: DROPPED ones have it", s.holds(0, 10), 10);
        due("T2: of these THERE", s.holds(0, 11), 0);
        due("T2: a BOX of DROPPED ones stays", s.holds(0, 3), 1);
        due("T2: all", s.tidy(0), 10);
        for (int what = 3; what < 10; what++) due("T2: the BOX is empty, " + what, s.holds(0, what), -99999);
        due("T2: none has it", s.holds(0, 10), 0);
        due("T2: VECTORS are as many", s.count(0), 12);
        due("T2: FULL by VECTORS without CELLS, too", s.vector(0, 0, 0, 0), -4);
    }

    /** Terms 2: CENTRED ANEW, FLOORS of each COORDINATE, CELLS without VECTORS, those whose VECTORS are DROPPED. */
    private static void centredAnew() {
        VectorShelf none = new VectorShelf();
        none.cell(5, 6, 7);
        due("T2: without VECTORS", none.centre(), 0);
        due("T2: CENTRE stays", none.holds(0, 0), 5);
        int[][] rows = {{-1, -2, -2}, {-1, -3, -2}, {1, 2, 1}, {-1, 0, -1}, {1, -2, -1}, {-999, -998, -999}, {999, 998, 998}};
        for (int[] r : rows) {
            for (int i = 0; i < 3; i++) {
                VectorShelf s = new VectorShelf();
                cell(s, at(i, 500, 0));
                vector(s, at(i, r[0], 0));
                vector(s, at(i, r[1], 0));
                due("T2: one CENTRE is otherwise", s.centre(), 1);
                due("T2: FLOOR of " + (r[0] + r[1]) + " over 2", s.holds(0, i), r[2]);
                due("T2: none is otherwise", s.centre(), 0);
            }
        }
        VectorShelf s = new VectorShelf();
        for (int i = 0; i < 4; i++) s.cell(200 * i - 300, 0, 0);
        for (int i = 0; i < 4; i++) s.vector(200 * i - 299, i, -i, 0);
        s.drop(2, 1);
        due("T2: of four three", s.centre(), 3);
        due("T2: whose VECTORS are DROPPED keeps it", s.holds(2, 0), 100);
        due("T2: its BOX is empty", s.holds(2, 3), -99999);
        due("T2: who is DROPPED has no CELL", s.told(2, 5), -1);
        due("T2: CENTRE 3", s.holds(3, 0), 301);
        due("T2: CENTRE 3", s.holds(3, 2), -3);
    }

    /** Terms 2: a CELL's LOW just above, not above, just as much as HIGH. */
    private static void readingEnds() {
        VectorShelf s = new VectorShelf();
        s.cell(999, 0, 0);
        s.cell(-999, 0, 0);
        s.vector(999, 0, 0, 0);
        s.vector(-999, 1, 0, 0);
        // Squares 998001 and 998002: LOW is not above HIGH, which is nearly 1 more than the FAR.
        due("T2: LOW is not above HIGH", s.near(1, 7), 2);
        s.move(1, -999, 1, 1);
        s.tidy(1);
        due("T2: LOW is above HIGH", s.near(1, 7), 1);
        due("T2: not, if fewer are HELD", s.near(2, 7), 2);
        rule(s, "fits 1;adds 1;");
        due("T2: HIGH of FAR with PUSH", s.near(1, 7), 2);
        rule(s, "fits number;adds 0;");
        due("T2: not, if it does not FIT", s.near(1, 7), 2);
        due("T2: then the other is HELD", s.near(1, 0), 1);
        VectorShelf t = atGreatNumbers();
        due("T2: 16777248 less is above 16777215 more", t.near(1, 7), 1);
        rule(t, "fits 1;adds 1;");
        due("T2: 16777248 less is just 16777216 more", t.near(1, 7), 2);
        rule(t, "fits 1;adds 2;");
        due("T2: 16777248 less is not above", t.near(1, 7), 2);
    }

    /** The two FARS are 16777215 and 16777248, where FLOATS are two apart. */
    private static VectorShelf atGreatNumbers() {
        VectorShelf t = new VectorShelf();
        setAll(t, 1, 0, 999999, 1, 9, 8, 7);
        t.cell(980, 966, 309);
        t.cell(-998, -440, -946);
        t.vector(980, 966, 309, 0);
        t.vector(-998, -440, -946, 0);
        due("T2: FAR", t.told(0, 11), 16777215);
        due("T2: FAR", t.told(1, 11), 16777248);
        due("T2: LOW", t.told(1, 12), 16777232);
        return t;
    }

    /** Terms 2: a VECTOR's LOW just above, not above, just as much as HIGH; its CELL's is little. */
    private static void readingSkips() {
        VectorShelf t = atGreatNumbers();
        t.move(0, 1, 1, 1);
        t.move(0, 980, 966, 309);
        t.move(1, -40, -40, -40);
        t.move(1, -998, -440, -946);
        due("T2: its CELL", t.told(0, 5), 0);
        due("T2: its CELL", t.told(1, 5), 1);
        due("T2: the CELL is OPENED", t.near(1, 7), 2);
        due("T2: 16777248 less is above 16777215 more", t.near(1, 6), 1);
        due("T2: the other is READ", t.near(1, 5), 1);
        rule(t, "fits 1;adds 1;");
        due("T2: 16777248 less is just 16777216 more", t.near(1, 6), 0);
        due("T2: both are READ", t.near(1, 5), 2);
        VectorShelf s = new VectorShelf();
        s.cell(0, 0, 0);
        s.set(0, 1);
        for (int x : new int[] {5, 3, 0, 0, 3}) s.vector(x, 0, 0, 0);
        due("T2: by numbers, all that come nearer are READ, 0 from it, too", s.near(1, 5), 4);
        due("T2: the last one is SKIPPED", s.near(1, 6), 1);
        due("T2: of like ones the first is HELD", s.near(1, 0), 2);
        due("T2: if fewer than k are HELD, none is SKIPPED", s.near(5, 6), 0);
        due("T2: of two that are HELD the last one's FAR", s.near(2, 6), 1);
        due("T2: its own LOW is not above its FAR's HIGH", s.near(3, 6), 0);
    }

    /** Terms 2: CELLS by their LOW, of like ones by numbers; no CELL more is asked behind the end. */
    private static void orderOfCells() {
        VectorShelf s = new VectorShelf();
        for (int x : new int[] {300, -200, 100, 900}) s.cell(x, 0, 0);
        for (int x : new int[] {300, -200, 100, 900}) s.vector(x, 0, 0, 0);
        int[] opened = {1, 2, 3, 4, 4};
        int[] read = {1, 2, 3, 4, 4};
        for (int k = 1; k < 6; k++) {
            due("T2: OPENED for " + k, s.near(k, 7), opened[k - 1]);
            due("T2: READ for " + k, s.near(k, 5), read[k - 1]);
            due("T2: SKIPPED for " + k, s.near(k, 6), 0);
            due("T2: HELD for " + k, s.near(k, 9), opened[k - 1]);
        }
        int[] order = {2, 1, 0, 3, -1};
        for (int i = 0; i < 5; i++) due("T2: NEAR " + i, s.near(5, i), order[i]);
        rule(s, "fits number = 3;adds 0;");
        due("T2: all are READ till one FITS", s.near(1, 5), 4);
        rule(s, "fits 0;adds 0;");
        due("T2: all are READ if none FITS", s.near(1, 5), 4);
        due("T2: none is HELD", s.near(1, 9), 0);
        due("T2: FAR of none", s.near(1, 8), -1);
        VectorShelf t = new VectorShelf();
        t.cell(-10, 0, 0);
        t.cell(10, 0, 0);
        t.vector(10, 0, 0, 0);
        t.vector(-10, 0, 0, 0);
        rule(t, "fits 1;adds 90*number;");
        due("T2: of like CELLS the first: its one is HELD, then the other", t.near(1, 5), 2);
        due("T2: NEAR", t.near(1, 0), 0);
        t.query(1, 0, 0);
        due("T2: the less LOW first", t.near(1, 5), 1);
        t.query(-1, 0, 0);
        due("T2: the less LOW first", t.near(1, 5), 2);
    }

    public static void main(String[] args) {
        coordinates();
        atFirst();
        measures();
        slackAndCap();
        weights();
        most();
        rounding();
        ahead();
        nearestCell();
        boxes();
        spans();
        codeAnew();
        tidied();
        centredAnew();
        readingEnds();
        readingSkips();
        orderOfCells();
        CHECK.end();
    }
}
