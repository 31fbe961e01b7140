/** Promises 30 to 34: what was told, images, counts. */
public final class ToldTest {
    private static final Check CHECK = new Check();

    private static void due(String call, long got, long want) {
        CHECK.due(call, got, want);
    }

    private static void row(VectorShelf s, int sheet, int sort, int... numbers) {
        s.sheet(sheet, sort, numbers.length);
        for (int i = 0; i < numbers.length; i++) s.put(sheet, i, numbers[i]);
    }

    private static void telling(String name, VectorShelf s, int sheet, int... due) {
        for (int what = 0; what < 5; what++) due("30: " + name + ", " + what, s.tells(sheet, what), due[what]);
    }

    private static VectorShelf about(int[]... places) {
        VectorShelf s = new VectorShelf();
        s.cell(0, 0, 0);
        for (int[] p : places) s.vector(p[0], p[1], p[2], 0);
        return s;
    }

    /** Promise 30. */
    private static void tells() {
        VectorShelf s = NearTest.line();
        due("30: BAD ahead of -11", s.tells(0, 5), -2);
        due("30: BAD", s.tells(0, -1), -2);
        due("30: BAD", s.tells(4, 0), -2);
        due("30: BAD", s.tells(-1, 0), -2);
        due("30: -11", s.tells(0, 0), -11);
        s.sheet(0, 2, 13);
        due("30: more than 12", s.tells(0, 0), -2);
        s.sheet(0, 2, 12);
        due("30: 12", s.tells(0, 0), 1);
        row(s, 1, 2, 0, 1, 2, 3, 4, 0, 0);
        telling("as it is", s, 1, -1, 63, 1, 1022, 0);
        row(s, 2, 1, 0, 0, 2, 3, 4, 0, 0);
        telling("without 1", s, 2, 1, 0, 0, 0, 2);
        row(s, 2, 0, 0, 1, 2, 3, 4);
        telling("floats, fewer", s, 2, -1, 63, 1, 1022, 0);
        s.blank(2, 0);
        due("30: NO NUMBER tells 0", s.tells(2, 0), -1);
        row(s, 3, 0);
        telling("none", s, 3, -1, 63, 1, 1022, 31);
        s.drop(1, 1);
        telling("none, 1 DROPPED", s, 3, -1, 63, 1, 1022, 29);
        row(s, 2, 1, 0, 0, 2, 3, 4, 0, 0);
        due("30: at the PLACE of a DROPPED one, too", s.tells(2, 0), -1);
        due("30: in thought", s.told(1, 4), 1);
        due("30: in thought", s.told(0, 11), 1);
    }

    /** Promise 30: kinds, texts, weights. */
    private static void whatElseWouldTell() {
        VectorShelf s = about(new int[] {3, 3, 0}, new int[] {5, 0, 0});
        s.set(2, 10);
        row(s, 0, 2, 0, 1, 0);
        telling("all but BLOCK", s, 0, -1, 59, 1, 1022, 0);
        row(s, 0, 2, 0, 1, 1);
        telling("BLOCK alone", s, 0, 2, 4, 0, 0, 0);
        due("30: KIND in thought", s.count(7), 0);
        VectorShelf t = about(new int[] {3, 0, 0}, new int[] {0, 5, 0});
        t.set(3, 1);
        row(t, 0, 2, 0, 1, 0);
        telling("little weights", t, 0, -1, 63, 1, 6, 0);
        row(t, 0, 2, 0, 1, 1);
        telling("great weights", t, 0, 2, 0, 0, 1016, 0);
        due("30: WEIGHT in thought", t.set(4, 2), 1);
        NearTest.rule(t, "fits number = 1; adds 0;");
        NearTest.rule(t, "fits 0; adds 0;");
        row(t, 1, 1, 1, 1, 1);
        telling("by a TEXT", t, 1, 0, 0, 2, 0, 0);
        row(t, 1, 1, -1, -1, -1);
        telling("NONE", t, 1, -1, 63, 4, 1022, 3);
        due("30: RULE in thought", t.count(5), 2);
        t.force(1);
        telling("NONE without 1", t, 1, 0, 0, 4, 0, 2);
        byTags();
    }

    /** Promise 30: texts by tags; beyond the last vector all three are 0. */
    private static void byTags() {
        VectorShelf s = new VectorShelf();
        s.cell(0, 0, 0);
        s.vector(1, 1, 1, 5);
        s.vector(-1, -1, -1, 6);
        s.vector(0, 0, 40, 7);
        NearTest.rule(s, "fits tag = 6; adds 0;");
        row(s, 0, 2, 1, 1, 1, 1);
        telling("by TAGS", s, 0, -1, 63, 2, 1022, 5);
        s.force(0);
        for (int i = 0; i < 3; i++) {
            VectorShelf t = about(new int[] {5, 5, 5}, new int[] {0, 0, 0});
            t.move(0, i == 0 ? 2 : 0, i == 1 ? 2 : 0, i == 2 ? 2 : 0);
            t.move(1, i == 0 ? -1 : 0, i == 1 ? -1 : 0, i == 2 ? -1 : 0);
            t.film(0, 3);
            due("31: beyond the last at 0, " + i, t.item(0, 2), 1);
            t.move(0, i == 0 ? 1 : 0, i == 1 ? 1 : 0, i == 2 ? 1 : 0);
            due("30: beyond the last at 0, " + i, t.tells(0, 0), 2);
        }
    }

    /** Promise 31. */
    private static void film() {
        VectorShelf s = NearTest.line();
        s.query(7, 7, 7);
        s.sheet(2, 0, 40);
        due("31: 7", s.film(2, 7), 7);
        int[] due = {0, 1, 2, 3, 4, 0, 0, -99999};
        for (int i = 0; i < 8; i++) due("31: item " + i, s.item(2, i), due[i]);
        s.put(2, 0, 65536 - 3);
        due("31: shorts", s.item(2, 0), -3);
        due("31: THE QUERY stays", s.told(0, 11), 36 + 49 + 49);
        s.drop(3, 1);
        due("31: a missing one", s.film(0, 12), 12);
        due("31: at the PLACE of a DROPPED one", s.item(0, 3), 4);
        due("31: beyond the last", s.item(0, 11), 0);
        due("31: none", s.film(2, 0), 0);
        due("31: none", s.item(2, 0), -99999);
        due("31: a row of none", s.put(2, 0, 1), -12);
        due("31: BAD", s.film(4, 1), -2);
        due("31: BAD", s.film(-1, 1), -2);
        due("31: BAD", s.film(0, 13), -2);
        due("31: BAD", s.film(0, -1), -2);
        due("31: BAD changes nothing", s.item(0, 3), 4);
        VectorShelf t = new VectorShelf();
        t.film(0, 1);
        due("31: NONE", t.item(0, 0), -1);
        VectorShelf u = NearTest.line();
        u.count(6);
        NearTest.rule(u, "fits number = 2; adds 0;");
        u.film(0, 1);
        due("31: by THE RULE", u.item(0, 0), 2);
    }

    /** Promises 32 and 33. */
    private static void imageAndBack() {
        VectorShelf s = NearTest.line();
        due("33: STATE", s.back(), -3);
        NearTest.rule(s, "fits 1; adds 3;");
        s.query(1, 2, 3);
        s.drop(1, 1);
        s.set(0, 7);
        s.set(3, 1);
        s.set(4, 2);
        due("32: how many", s.image(), 5);
        due("32: nothing changes", s.told(0, 11), 4 + 9 + 3);
        int[] others = {8, 9, 10, 4, 5, 6, 7};
        for (int what = 0; what < 7; what++) s.set(what, others[what]);
        s.query(-9, 9, 9);
        s.force(0);
        s.move(0, 60, 1, 1);
        s.drop(1, 0);
        s.drop(2, 1);
        s.tidy(0);
        s.vector(7, 7, 7, 7);
        s.cell(7, 7, 7);
        s.centre();
        s.sheet(0, 1, 3);
        s.feed(65);
        due("33: how many", s.back(), 5);
        int[] was = {7, 0, 999999, 1, 2, 1, 1};
        for (int what = 0; what < 7; what++) due("33: setting " + what, s.set(what, was[what]), was[what]);
        due("33: CELLS", s.count(1), 2);
        due("33: VECTORS", s.count(0), 5);
        due("33: THERE", s.count(2), 4);
        due("33: THE RULE", s.count(5), 1);
        due("33: PLACE", s.told(0, 0), 1);
        due("33: CELL", s.told(0, 5), 0);
        due("33: CELL that was lost", s.told(2, 5), 0);
        due("33: DROPPED", s.told(1, 4), 1);
        due("33: DROPPED", s.told(2, 4), 0);
        due("33: CENTRE", s.holds(1, 0), 100);
        due("33: BOX", s.holds(0, 3), -2);
        due("33: BOX", s.holds(0, 6), 3);
        due("33: THE QUERY", s.told(0, 11), 4 + 9 + 3);
        due("33: TEXTS stay", s.count(3), 2);
        due("33: THE TAPE stays", s.count(4), 1);
        due("33: SHEETS stay", s.item(0, 2), 0);
        due("33: a new CELL has an empty BOX", s.cell(7, 7, 7), 2);
        due("33: a new CELL has an empty BOX", s.holds(2, 3), -99999);
        due("33: again", s.back(), 5);
        due("33: again", s.count(1), 2);
        due("32: an IMAGE anew", new VectorShelf().image(), 0);
        VectorShelf t = new VectorShelf();
        t.image();
        t.cell(0, 0, 0);
        t.vector(0, 0, 0, 5);
        due("33: of a new one", t.back(), 0);
        due("33: no CELL", t.vector(0, 0, 0, 0), -3);
        t.cell(0, 0, 0);
        t.vector(1, 0, 0, -6);
        due("32: the later one", t.image(), 1);
        t.vector(2, 0, 0, 0);
        due("33: the later one", t.back(), 1);
        due("33: TAG", t.told(0, 3), -6);
    }

    /** Promise 34. */
    private static void count() {
        VectorShelf s = NearTest.line();
        NearTest.rule(s, "fits number < 2; adds 0;");
        s.drop(0, 1);
        s.drop(4, 1);
        s.set(3, 4);
        s.feed(1);
        s.feed(2);
        int[] due = {5, 2, 3, 2, 2, 1, 1, 4};
        for (int what = 0; what < 8; what++) due("34: count(" + what + ")", s.count(what), due[what]);
        due("34: BAD", s.count(8), -2);
        due("34: BAD", s.count(-1), -2);
    }

    public static void main(String[] args) {
        tells();
        whatElseWouldTell();
        film();
        imageAndBack();
        count();
        CHECK.end();
    }
}
