/** Promises 1 to 13: a new object, cells and vectors. */
public final class CellsTest {
    private static final Check CHECK = new Check();

    private static void due(String call, long got, long want) {
        CHECK.due(call, got, want);
    }

    private static VectorShelf withCells(int... xs) {
        VectorShelf s = new VectorShelf();
        for (int x : xs) s.cell(x, 0, 0);
        return s;
    }

    /** Promise 1. */
    private static void aNewObject() {
        VectorShelf s = new VectorShelf();
        int[] counts = {0, 0, 0, 1, 0, 0, 0, 0};
        for (int what = 0; what < 8; what++) due("1: count(" + what + ")", s.count(what), counts[what]);
        int[] settings = {16, 0, 999999, 0, 1, 1, 1};
        for (int what = 0; what < 7; what++) due("1: set(" + what + ")", s.set(what, settings[what]), settings[what]);
        due("1: told(0, 0)", s.told(0, 0), -99999);
        due("1: holds(0, 0)", s.holds(0, 0), -99999);
        due("1: back()", s.back(), -3);
        for (int i = 0; i < 4; i++) due("1: item of sheet " + i, s.item(i, 0), -99999);
        s.cell(1, 1, 1);
        s.vector(3, 0, 0, 0);
        due("1: THE QUERY is 0, 0, 0", s.told(0, 11), 9);
    }

    /** Promise 2. */
    private static void cell() {
        VectorShelf s = new VectorShelf();
        due("2: cell(1000, 0, 0)", s.cell(1000, 0, 0), -2);
        due("2: cell(0, -1000, 0)", s.cell(0, -1000, 0), -2);
        due("2: cell(0, 0, MAX)", s.cell(0, 0, Integer.MAX_VALUE), -2);
        due("2: cell(0, MIN, 0)", s.cell(0, Integer.MIN_VALUE, 0), -2);
        due("2: refusals change nothing", s.count(1), 0);
        due("2: first", s.cell(-999, 999, 5), 0);
        due("2: second", s.cell(0, 0, 0), 1);
        due("2: third", s.cell(0, 0, 0), 2);
        due("2: fourth", s.cell(1, 2, 3), 3);
        due("2: BAD ahead of FULL", s.cell(0, 0, 1000), -2);
        due("2: fifth", s.cell(0, 0, 0), -4);
        due("2: count(1)", s.count(1), 4);
        due("2: centre 0", s.holds(0, 0), -999);
        due("2: centre 1", s.holds(0, 1), 999);
        due("2: centre 2", s.holds(0, 2), 5);
        for (int what = 3; what < 10; what++) due("2: an empty BOX, " + what, s.holds(0, what), -99999);
    }

    /** Promise 3. */
    private static void vector() {
        VectorShelf s = new VectorShelf();
        due("3: BAD ahead of STATE", s.vector(0, 1000, 0, 0), -2);
        due("3: no CELL", s.vector(0, 0, 0, 0), -3);
        s.cell(0, 0, 0);
        s.cell(10, 0, 0);
        due("3: tag 100", s.vector(0, 0, 0, 100), -2);
        due("3: tag -100", s.vector(0, 0, 0, -100), -2);
        due("3: x -1000", s.vector(-1000, 0, 0, 0), -2);
        due("3: z 1000", s.vector(0, 0, 1000, 0), -2);
        due("3: number", s.vector(5, 0, 0, 99), 0);
        due("3: of like ones the first CELL", s.told(0, 5), 0);
        due("3: number", s.vector(6, -2, 3, -99), 1);
        due("3: nearest CELL", s.told(1, 5), 1);
        due("3: THERE", s.told(1, 4), 0);
        due("3: BOX of just this", s.holds(1, 3), 6);
        due("3: BOX of just this", s.holds(1, 6), 6);
        due("3: BOX of just this", s.holds(1, 4), -2);
        due("3: BOX of just this", s.holds(1, 7), -2);
        s.vector(20, 7, -9, 0);
        due("3: BOX holds both, least x", s.holds(1, 3), 6);
        due("3: BOX holds both, greatest x", s.holds(1, 6), 20);
        due("3: BOX holds both, greatest y", s.holds(1, 7), 7);
        due("3: BOX holds both, least z", s.holds(1, 5), -9);
        for (int i = 3; i < 12; i++) due("3: number", s.vector(-999, 999, 0, 0), i);
        due("3: FULL", s.vector(0, 0, 0, 0), -4);
        due("3: BAD ahead of FULL", s.vector(0, 0, 0, 200), -2);
        due("3: count(0)", s.count(0), 12);
        VectorShelf t = new VectorShelf();
        t.cell(6, 0, 0);
        t.cell(4, 4, 0);
        t.set(3, 2);
        t.vector(0, 0, 0, 0);
        due("3: by squares whatever THE MEASURE", t.told(0, 5), 1);
    }

    /** Promise 3: a box at the bounds of the coordinates. */
    private static void boxesAtTheBounds() {
        for (int at : new int[] {-999, 999}) {
            VectorShelf s = withCells(0);
            s.vector(at, at, at, 0);
            for (int what = 3; what < 9; what++) due("3: BOX at " + at, s.holds(0, what), at);
        }
    }

    /** Promise 4. */
    private static void move() {
        VectorShelf s = withCells(0, 100);
        s.vector(1, 2, 3, 4);
        due("4: BAD one", s.move(1, 0, 0, 0), -2);
        due("4: BAD one", s.move(-1, 0, 0, 0), -2);
        due("4: BAD place", s.move(0, 0, 0, -1000), -2);
        due("4: its CELL", s.move(0, 90, 5, 6), 1);
        due("4: PLACE", s.told(0, 0), 90);
        due("4: PLACE", s.told(0, 1), 5);
        due("4: PLACE", s.told(0, 2), 6);
        due("4: TAG stays", s.told(0, 3), 4);
        due("4: CELL", s.told(0, 5), 1);
        due("4: the BOX that it leaves stays", s.holds(0, 3), 1);
        due("4: the BOX that it leaves stays", s.holds(0, 8), 3);
        due("4: the BOX that it comes into", s.holds(1, 3), 90);
        due("4: none left", s.holds(0, 10), 0);
        due("4: within its CELL", s.move(0, 120, 5, 6), 1);
        due("4: the BOX still holds the old PLACE", s.holds(1, 3), 90);
        due("4: the BOX holds the new PLACE", s.holds(1, 6), 120);
        s.drop(0, 1);
        due("4: STATE", s.move(0, 0, 0, 0), -3);
        due("4: BAD ahead of STATE", s.move(0, 0, 1000, 0), -2);
        due("4: nothing changed", s.told(0, 0), 120);
    }

    /** Promise 5. */
    private static void drop() {
        VectorShelf s = withCells(0);
        s.vector(1, 2, 3, 4);
        due("5: BAD one", s.drop(1, 0), -2);
        due("5: BAD one", s.drop(-1, 0), -2);
        due("5: BAD is", s.drop(0, 2), -2);
        due("5: BAD is", s.drop(0, -1), -2);
        due("5: was THERE", s.drop(0, 0), 0);
        due("5: was THERE", s.drop(0, 1), 0);
        due("5: is DROPPED", s.told(0, 4), 1);
        due("5: keeps its CELL", s.told(0, 5), 0);
        due("5: none THERE", s.count(2), 0);
        due("5: was DROPPED", s.drop(0, 1), 1);
        due("5: was DROPPED", s.drop(0, 0), 1);
        due("5: is THERE", s.told(0, 4), 0);
        s.drop(0, 1);
        s.tidy(0);
        due("5: no CELL", s.drop(0, 0), -3);
        due("5: no CELL", s.drop(0, 1), -3);
        due("5: BAD ahead of STATE", s.drop(0, 3), -2);
    }

    /** Promise 6. */
    private static void told() {
        VectorShelf s = new VectorShelf();
        s.cell(10, -10, 0);
        s.vector(9, 22, -17, -5);
        int[] due = {9, 22, -17, -5, 0, 0, -1, 2, -2, 1, 0, 9 * 9 + 22 * 22 + 17 * 17};
        for (int what = 0; what < 12; what++) due("6: told(0, " + what + ")", s.told(0, what), due[what]);
        // Spans -6 .. 9, 22 .. 37, -32 .. -17: outside 0, 22, 17.
        due("6: LOW", s.told(0, 12), 772);
        due("6: none such", s.told(1, 0), -99999);
        due("6: none such", s.told(-1, 0), -99999);
        due("6: none such", s.told(0, 13), -99999);
        due("6: none such", s.told(0, -1), -99999);
        s.set(0, 5);
        due("6: CODE by another STEP", s.told(0, 7), 6);
        s.drop(0, 1);
        due("6: CODE of a DROPPED one", s.told(0, 8), -4);
        due("6: FAR of a DROPPED one", s.told(0, 11), due[11]);
        due("6: LOW of a DROPPED one", s.told(0, 12) == -99999 ? 1 : 0, 0);
        due("6: a DROPPED one fits not", s.told(0, 9), 0);
        s.tidy(0);
        due("6: without a CELL", s.told(0, 5), -1);
        for (int what = 6; what < 9; what++) due("6: CODE without a CELL", s.told(0, what), -99999);
        due("6: LOW without a CELL", s.told(0, 12), -99999);
        due("6: FAR without a CELL", s.told(0, 11), due[11]);
        due("6: PLACE without a CELL", s.told(0, 1), 22);
    }

    /** Promise 6: codes at their bounds, whose spans go to the bounds of the coordinates. */
    private static void boundsOfCodes() {
        VectorShelf s = new VectorShelf();
        s.cell(999, -999, 0);
        s.set(0, 1);
        s.vector(-999, 999, 0, 0);
        due("6: least CODE", s.told(0, 6), -128);
        due("6: greatest CODE", s.told(0, 7), 127);
        s.query(999, 0, 0);
        due("6: SPAN of -128 from -999", s.told(0, 12), 16383);
        s.query(-999, 0, 0);
        due("6: SPAN of -128 from -999", s.told(0, 12), 0);
        s.query(0, -999, 0);
        due("6: SPAN of 127 to 999", s.told(0, 12), 16128);
        s.query(0, 999, 0);
        due("6: SPAN of 127 to 999", s.told(0, 12), 0);
        VectorShelf t = withCells(100);
        t.vector(100, 0, 0, 0);
        due("6: LOW is a little less", t.told(0, 12), 9999);
        t.set(3, 1);
        t.set(4, 9);
        // 98 times 98 times 9 is 86436.
        t.query(2, 0, 0);
        due("6: LOW of WEIGHED", t.told(0, 12), 86435);
        t.set(3, 2);
        due("6: LOW of BLOCK", t.told(0, 12), 391);
        t.set(3, 3);
        t.set(1, 8);
        due("6: LOW of DEAD", t.told(0, 12), 72899);
        t.set(3, 4);
        due("6: LOW of MOST", t.told(0, 12), 392);
        t.set(3, 5);
        t.set(2, 5000);
        due("6: LOW of CAPPED", t.told(0, 12), 4999);
        VectorShelf u = new VectorShelf();
        u.cell(100, 200, 400);
        u.vector(100, 200, 400, 0);
        u.set(3, 1);
        for (int i = 0; i < 3; i++) u.set(4 + i, 2 + i);
        // Less 1 of 1048576: 20000 and 120000 and 640000, less 0.74.
        due("6: LOW by each WEIGHT", u.told(0, 12), 779999);
        due("7: LOW by each WEIGHT", u.holds(0, 9), 779999);
    }

    /** Promise 7. */
    private static void holds() {
        VectorShelf s = new VectorShelf();
        s.cell(-7, 8, 9);
        s.vector(-10, 5, 20, 0);
        s.vector(-4, 6, 30, 0);
        int[] due = {-7, 8, 9, -10, 5, 20, -4, 6, 30};
        for (int what = 0; what < 9; what++) due("7: holds(0, " + what + ")", s.holds(0, what), due[what]);
        // Outside of the box: 4, 5, 20.
        due("7: LOW", s.holds(0, 9), 440);
        due("7: how many", s.holds(0, 10), 2);
        due("7: how many THERE", s.holds(0, 11), 2);
        s.query(-6, 7, 31);
        due("7: LOW", s.holds(0, 9), 1);
        s.query(-6, 5, 25);
        due("7: LOW inside", s.holds(0, 9), 0);
        s.drop(1, 1);
        due("7: the BOX stays", s.holds(0, 6), -4);
        due("7: how many", s.holds(0, 10), 2);
        due("7: how many THERE", s.holds(0, 11), 1);
        due("7: none such", s.holds(1, 0), -99999);
        due("7: none such", s.holds(-1, 0), -99999);
        due("7: none such", s.holds(0, 12), -99999);
        due("7: none such", s.holds(0, -1), -99999);
        s.cell(500, 500, 500);
        due("7: CENTRE of an empty one", s.holds(1, 0), 500);
        due("7: an empty BOX", s.holds(1, 3), -99999);
        due("7: an empty BOX", s.holds(1, 9), -99999);
        due("7: none has it", s.holds(1, 10), 0);
        due("7: none has it", s.holds(1, 11), 0);
    }

    /** Promise 8. */
    private static void set() {
        VectorShelf s = new VectorShelf();
        int[] first = {16, 0, 999999, 0, 1, 1, 1};
        int[] least = {1, 0, 0, 0, 1, 1, 1};
        int[] greatest = {64, 99, 999999, 5, 9, 9, 9};
        for (int what = 0; what < 7; what++) {
            due("8: too little, " + what, s.set(what, least[what] - 1), -2);
            due("8: too much, " + what, s.set(what, greatest[what] + 1), -2);
            due("8: what it was, " + what, s.set(what, least[what]), first[what]);
            due("8: least, " + what, s.set(what, greatest[what]), least[what]);
            due("8: greatest, " + what, s.set(what, first[what]), greatest[what]);
        }
        due("8: no such", s.set(7, 1), -2);
        due("8: no such", s.set(-1, 1), -2);
    }

    /** Promise 9. */
    private static void query() {
        VectorShelf s = withCells(0);
        due("9: none", s.query(1, 1, 1), 0);
        s.vector(4, 0, 0, 0);
        s.vector(5, 0, 0, 0);
        due("9: two fit", s.query(2, 0, 0), 2);
        due("9: FAR", s.told(0, 11), 4);
        s.drop(1, 1);
        due("9: one fits", s.query(-999, 999, 0), 1);
        due("9: BAD", s.query(1000, 0, 0), -2);
        due("9: BAD", s.query(0, -1000, 0), -2);
        due("9: BAD", s.query(0, 0, 1000), -2);
        due("9: BAD changes nothing", s.told(0, 11), 1003 * 1003 + 999 * 999);
    }

    /** Promise 10. */
    private static void apart() {
        VectorShelf s = withCells(0);
        s.vector(0, 0, 0, 0);
        s.vector(-3, 4, 12, 0);
        s.set(4, 2);
        s.set(5, 3);
        s.set(1, 3);
        s.set(2, 100);
        int[] due = {169, 18 + 48 + 144, 76, 3 + 81, 49, 84};
        for (int kind = 0; kind < 6; kind++) {
            s.set(3, kind);
            due("10: KIND " + kind, s.apart(0, 1), due[kind]);
            due("10: KIND " + kind + " the other way", s.apart(1, 0), due[kind]);
            due("10: KIND " + kind + " one and the same", s.apart(1, 1), kind == 4 ? 1 : 0);
        }
        s.set(2, 50);
        due("10: CAPPED", s.apart(0, 1), 50);
        s.drop(0, 1);
        due("10: a DROPPED one", s.apart(0, 1), 50);
        due("10: BAD", s.apart(0, 2), -2);
        due("10: BAD", s.apart(-1, 0), -2);
        VectorShelf t = withCells(0);
        t.vector(-999, -999, -999, 0);
        t.vector(999, 999, 999, 0);
        t.set(3, 1);
        for (int what = 4; what < 7; what++) t.set(what, 9);
        due("10: the most", t.apart(0, 1), 27 * 1998 * 1998);
    }

    /** Promise 11. */
    private static void high() {
        VectorShelf s = new VectorShelf();
        due("11: high(0)", s.high(0), 0);
        due("11: high(1000)", s.high(1000), 1000);
        due("11: high(2000000)", s.high(2000000), 2000001);
        due("11: turned to a FLOAT ahead", s.high(16777217), 16777232);
        due("11: high(999999999)", s.high(999999999), 1000000960);
        due("11: BAD", s.high(-1), -2);
        due("11: BAD", s.high(1000000000), -2);
    }

    /** Promise 12. */
    private static void tidy() {
        VectorShelf s = withCells(0, 100);
        s.vector(1, 0, 0, 0);
        s.vector(5, 5, 5, 0);
        s.vector(90, 0, 0, 0);
        s.drop(1, 1);
        s.drop(2, 1);
        due("12: BAD", s.tidy(2), -2);
        due("12: BAD", s.tidy(-1), -2);
        due("12: one", s.tidy(0), 1);
        due("12: no CELL", s.told(1, 5), -1);
        due("12: the BOX of the others", s.holds(0, 6), 1);
        due("12: the BOX of the others", s.holds(0, 7), 0);
        due("12: others stay", s.told(2, 5), 1);
        due("12: none more", s.tidy(0), 0);
        due("12: one", s.tidy(1), 1);
        due("12: an empty BOX", s.holds(1, 3), -99999);
        s.move(0, 2, 2, 2);
        due("12: the BOX that was left", s.holds(0, 3), 1);
        due("12: none", s.tidy(0), 0);
        due("12: the BOX is made anew", s.holds(0, 3), 2);
        VectorShelf t = withCells(0, 100);
        t.vector(10, 0, 0, 0);
        t.vector(60, 0, 0, 0);
        t.centre();
        t.cell(11, 0, 0);
        t.tidy(0);
        due("12: all of the CELL, not the nearest", t.told(0, 5), 0);
    }

    /** Promise 13. */
    private static void centre() {
        VectorShelf s = new VectorShelf();
        due("13: STATE", s.centre(), -3);
        s.cell(0, 0, 0);
        s.cell(100, 0, 0);
        s.cell(-500, 0, 0);
        s.vector(-1, 3, 0, 0);
        s.vector(-2, 4, 0, 0);
        s.vector(60, 0, 0, 0);
        s.vector(40, 0, 0, 0);
        s.drop(0, 1);
        s.drop(0, 0);
        // Of cell 0: -1, -2 and 40; of cell 1: 60.
        due("13: two CENTRES", s.centre(), 2);
        due("13: centre 0", s.holds(0, 0), 12);
        due("13: FLOOR", s.holds(0, 1), 2);
        due("13: centre 1", s.holds(1, 0), 60);
        due("13: others keep it", s.holds(2, 0), -500);
        due("13: the NEAREST CELL then", s.told(3, 5), 1);
        due("13: the BOX then", s.holds(0, 6), -1);
        due("13: the BOX then", s.holds(1, 3), 40);
        due("13: again", s.centre(), 2);
        due("13: FLOOR below 0", s.holds(0, 0), -2);
        due("13: at last", s.centre(), 0);
        s.drop(2, 1);
        s.drop(3, 1);
        due("13: none THERE: CENTRE stays", s.centre(), 0);
        due("13: DROPPED ones have no CELL", s.told(2, 5), -1);
        due("13: the BOX is empty", s.holds(1, 3), -99999);
        due("13: CENTRE stays", s.holds(1, 0), 50);
    }

    public static void main(String[] args) {
        aNewObject();
        cell();
        vector();
        boxesAtTheBounds();
        move();
        drop();
        told();
        boundsOfCodes();
        holds();
        set();
        query();
        apart();
        high();
        tidy();
        centre();
        CHECK.end();
    }
}
