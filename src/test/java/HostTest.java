/** Promises 35 to 44: sheets, and what is taken for what. */
public final class HostTest {
    private static final Check CHECK = new Check();
    private static final int MAX = Integer.MAX_VALUE, MIN = Integer.MIN_VALUE;

    private static void due(String call, long got, long want) {
        CHECK.due(call, got, want);
    }

    private static void row(VectorShelf s, int sheet, int sort, int... numbers) {
        s.sheet(sheet, sort, numbers.length);
        for (int i = 0; i < numbers.length; i++) s.put(sheet, i, numbers[i]);
    }

    private static void items(String name, VectorShelf s, int sheet, int... due) {
        for (int i = 0; i < due.length; i++) due(name + ", item " + i, s.item(sheet, i), due[i]);
        due(name + ", no item more", s.item(sheet, due.length), -99999);
    }

    /** Sheets: 0 floats, 1 bytes, 2 shorts, of 6 each; 3 missing. */
    private static VectorShelf sheets() {
        VectorShelf s = new VectorShelf();
        for (int i = 0; i < 3; i++) s.sheet(i, i, 6);
        return s;
    }

    /** Promise 35. */
    private static void sheet() {
        VectorShelf s = new VectorShelf();
        due("35: BAD", s.sheet(4, 0, 1), -2);
        due("35: BAD", s.sheet(-1, 0, 1), -2);
        due("35: BAD", s.sheet(0, 3, 1), -2);
        due("35: BAD", s.sheet(0, -2, 1), -2);
        due("35: BAD", s.sheet(0, 0, 41), -2);
        due("35: BAD", s.sheet(0, 0, MAX), -2);
        due("35: -14", s.sheet(0, 0, -1), -14);
        due("35: -14", s.sheet(0, 2, MIN), -14);
        due("35: BAD ahead of -14", s.sheet(0, 3, -1), -2);
        due("35: refusals change nothing", s.put(0, 0, 0), -11);
        for (int sort = 0; sort < 3; sort++) {
            due("35: 40", s.sheet(3, sort, 40), 1);
            due("35: all 0", s.item(3, 39), 0);
            due("35: no more", s.item(3, 40), -99999);
            s.put(3, 0, 7);
            due("35: again", s.sheet(3, sort, 1), 1);
            due("35: all 0 again", s.item(3, 0), 0);
            due("35: no more", s.item(3, 1), -99999);
            due("35: missing, n does not matter", s.sheet(3, -1, sort == 0 ? 41 : -1), 1);
            due("35: missing", s.put(3, 0, 0), -11);
        }
        s.sheet(2, 1, 3);
        s.sheet(2, -1, 3);
        due("35: missing", s.item(2, 0), -99999);
        due("35: none", s.sheet(0, 1, 0), 1);
        due("35: none", s.item(0, 0), -99999);
        due("35: none", s.put(0, 0, 0), -12);
    }

    /** Promise 36. */
    private static void put() {
        VectorShelf s = sheets();
        due("36: BAD", s.put(4, 0, 0), -2);
        due("36: BAD", s.put(-1, 0, 0), -2);
        due("36: -11", s.put(3, -1, 0), -11);
        for (int i = 0; i < 3; i++) {
            due("36: -12", s.put(i, -1, 0), -12);
            due("36: -12", s.put(i, 6, 0), -12);
            due("36: -12", s.put(i, MAX, 0), -12);
            due("36: 1", s.put(i, 5, -100), 1);
            due("36: item", s.item(i, 5), -100);
        }
        int[] told = {128, -129, 255, 65535, 32768, 16777217};
        for (int i = 0; i < 6; i++) for (int k = 0; k < 3; k++) s.put(k, i, told[i]);
        items("36: floats", s, 0, 128, -129, 255, 65535, 32768, 16777216);
        items("36: bytes", s, 1, -128, 127, -1, -1, 0, 1);
        items("36: shorts", s, 2, 128, -129, 255, -1, -32768, 1);
    }

    /** Promises 37 and 38. */
    private static void blankAndItem() {
        VectorShelf s = sheets();
        s.put(0, 2, 9);
        due("37: BAD", s.blank(4, 0), -2);
        due("37: BAD", s.blank(-1, 0), -2);
        due("37: -11", s.blank(3, 0), -11);
        due("37: -13", s.blank(1, 0), -13);
        due("37: -13 ahead of -12", s.blank(2, 6), -13);
        due("37: -12", s.blank(0, 6), -12);
        due("37: -12", s.blank(0, -1), -12);
        due("37: 1", s.blank(0, 2), 1);
        due("38: NO NUMBER", s.item(0, 2), 0);
        due("37: the last", s.blank(0, 5), 1);
        due("37: the first", s.blank(0, 0), 1);
        s.put(0, 2, 8);
        due("37: a number again", s.item(0, 2), 8);
        due("38: no such SHEET", s.item(4, 0), -99999);
        due("38: no such SHEET", s.item(-1, 0), -99999);
        due("38: missing", s.item(3, 0), -99999);
        due("38: no such item", s.item(0, 6), -99999);
        due("38: no such item", s.item(0, -1), -99999);
        s.put(0, 0, MAX);
        s.put(0, 1, MIN);
        due("38: the bound", s.item(0, 0), MAX);
        due("38: the bound", s.item(0, 1), MIN);
        s.put(0, 3, -7);
        due("38: quarters", s.item(0, 3), -7);
    }

    /** Promise 39. */
    private static void copy() {
        VectorShelf s = sheets();
        row(s, 1, 1, 1, 2, 3, 4, 5, 6);
        s.sheet(3, 1, 4);
        due("39: BAD", s.copy(4, 0, 0, 0, 1), -2);
        due("39: BAD", s.copy(0, 0, 4, 0, 1), -2);
        due("39: BAD", s.copy(-1, 0, 0, 0, 1), -2);
        due("39: -13", s.copy(0, 0, 1, 0, 1), -13);
        due("39: -13 ahead of -12", s.copy(1, 9, 2, 0, -1), -13);
        due("39: -12", s.copy(1, 0, 3, 0, -1), -12);
        due("39: -12", s.copy(1, -1, 3, 0, 1), -12);
        due("39: -12", s.copy(1, 0, 3, -1, 1), -12);
        due("39: -12", s.copy(1, 3, 3, 0, 4), -12);
        due("39: -12", s.copy(1, 0, 3, 1, 4), -12);
        due("39: -12", s.copy(1, 1, 3, 1, MAX), -12);
        due("39: -12", s.copy(1, MAX, 3, 0, 1), -12);
        due("39: -12", s.copy(1, 7, 3, 0, 0), -12);
        items("39: refusals change nothing", s, 3, 0, 0, 0, 0);
        due("39: 3", s.copy(1, 3, 3, 1, 3), 3);
        items("39: as they were", s, 3, 0, 4, 5, 6);
        due("39: none", s.copy(1, 6, 3, 4, 0), 0);
        due("39: itself, forward", s.copy(1, 0, 1, 1, 5), 5);
        items("39: itself, forward", s, 1, 1, 1, 2, 3, 4, 5);
        due("39: itself, backward", s.copy(1, 1, 1, 0, 5), 5);
        items("39: itself, backward", s, 1, 1, 2, 3, 4, 5, 5);
        s.sheet(3, -1, 0);
        due("39: -11", s.copy(1, 0, 3, 0, 1), -11);
        due("39: -11", s.copy(3, 0, 1, 0, 1), -11);
        due("39: -11 ahead of -12", s.copy(3, 0, 3, 0, -1), -11);
        row(s, 0, 0, 1, 2, 3);
        s.blank(0, 1);
        s.sheet(3, 0, 3);
        s.put(3, 1, 5);
        s.copy(0, 0, 3, 0, 3);
        items("39: NO NUMBER as it was", s, 3, 1, 0, 3);
        s.put(0, 1, 7);
        s.copy(0, 0, 3, 0, 3);
        items("39: floats", s, 3, 1, 7, 3);
        row(s, 2, 2, 300, -300);
        s.sheet(3, 2, 2);
        s.copy(2, 0, 3, 0, 2);
        items("39: shorts", s, 3, 300, -300);
    }

    /** Promise 40. */
    private static void rest() {
        VectorShelf s = sheets();
        row(s, 1, 1, 7, -7, 3, -3, 0, -128, -1);
        due("40: 7 by 3", s.rest(1, 0, 2), 1);
        due("40: -7 by 3", s.rest(1, 1, 2), -1);
        due("40: 7 by -3", s.rest(1, 0, 3), 1);
        due("40: -7 by -3", s.rest(1, 1, 3), -1);
        due("40: -128 by -1", s.rest(1, 5, 6), 0);
        due("40: 0 by 7", s.rest(1, 4, 0), 0);
        due("40: the last by the last", s.rest(1, 6, 6), 0);
        due("40: -1 by 7", s.rest(1, 6, 0), -1);
        due("40: -15", s.rest(1, 0, 4), -15);
        due("40: -12 ahead of -15", s.rest(1, 7, 4), -12);
        due("40: -12", s.rest(1, 0, 7), -12);
        due("40: -12", s.rest(1, -1, 0), -12);
        due("40: -12", s.rest(1, 0, -1), -12);
        due("40: -13", s.rest(0, 0, 0), -13);
        due("40: -13 ahead of -12", s.rest(2, 9, 9), -13);
        due("40: -11", s.rest(3, 0, 0), -11);
        due("40: BAD", s.rest(4, 0, 0), -2);
        due("40: BAD", s.rest(-1, 0, 0), -2);
    }

    /** Promise 41. */
    private static void shelve() {
        VectorShelf s = sheets();
        row(s, 2, 2, 99, 1, 2, 3, 4, 1000, 0, 0, 0, -5, -6, -7, -8, 9, 9, 9);
        due("41: no CELL: all left out", s.shelve(2, 2, 1, 3), 0);
        due("41: no CELL", s.count(0), 0);
        s.cell(0, 0, 0);
        due("41: one left out", s.shelve(2, 2, 1, 3), 2);
        due("41: first", s.told(0, 0), 1);
        due("41: first", s.told(0, 1), 2);
        due("41: first", s.told(0, 2), 3);
        due("41: first", s.told(0, 3), 4);
        due("41: second", s.told(1, 0), -5);
        due("41: second", s.told(1, 3), -8);
        due("41: what stood ahead came", s.shelve(2, 2, 1, 4), -12);
        due("41: what stood ahead came", s.count(0), 4);
        due("41: -12 at once", s.shelve(2, 2, -1, 1), -12);
        due("41: -12 at once", s.shelve(2, 2, MAX, 2), -12);
        due("41: -12 at once", s.shelve(2, 2, 13, 1), -12);
        due("41: none", s.shelve(2, 2, 0, 0), 0);
        due("41: none came", s.count(0), 4);
        due("41: -13", s.shelve(2, 1, 0, 1), -13);
        due("41: -13 ahead of -12", s.shelve(2, 0, 99, 1), -13);
        due("41: -11", s.shelve(3, 0, 0, 1), -11);
        due("41: BAD", s.shelve(4, 0, 0, 1), -2);
        due("41: BAD", s.shelve(-1, 0, 0, 1), -2);
        due("41: BAD", s.shelve(2, 3, 0, 1), -2);
        due("41: BAD", s.shelve(2, -1, 0, 1), -2);
        due("41: BAD", s.shelve(3, -1, 0, 1), -2);
        due("41: BAD", s.shelve(2, 2, 0, 13), -2);
        due("41: BAD", s.shelve(2, 2, 0, -1), -2);
        row(s, 0, 0, 10, 20, 30, 40);
        s.blank(0, 1);
        due("41: floats", s.shelve(0, 0, 0, 1), 1);
        due("41: floats", s.told(4, 0), 10);
        due("41: NO NUMBER", s.told(4, 1), 0);
        due("41: floats", s.told(4, 3), 40);
        row(s, 1, 1, new int[36]);
        due("41: bytes, till it is FULL", s.shelve(1, 1, 0, 9), 7);
        due("41: FULL", s.count(0), 12);
    }

    /** Promise 42. */
    private static void ask() {
        VectorShelf s = sheets();
        s.cell(0, 0, 0);
        s.vector(0, 0, 0, 0);
        row(s, 0, 0, 999, -1003, 5, 1000, MAX, MIN);
        due("42: BAD", s.ask(4, 0), -2);
        due("42: BAD", s.ask(-1, 0), -2);
        due("42: -13", s.ask(1, 0), -13);
        due("42: -13 ahead of -12", s.ask(2, 9), -13);
        due("42: -11", s.ask(3, 0), -11);
        due("42: -12", s.ask(0, 4), -12);
        due("42: -12", s.ask(0, -1), -12);
        due("42: -12", s.ask(0, MAX), -12);
        due("42: refusals change nothing", s.told(0, 11), 0);
        due("42: how many fit", s.ask(0, 0), 1);
        due("42: the rests", s.told(0, 11), 999 * 999 + 9 + 25);
        s.set(3, 1);
        s.set(4, 9);
        // 2147483648 by 1000 leaves 648, with the item's sign.
        due("42: great ones", s.ask(0, 3), 1);
        due("42: great ones", s.told(0, 11), 648 * 648 + 648 * 648);
        s.move(0, 0, 648, 0);
        due("42: the sign", s.told(0, 11), 648 * 648);
        s.move(0, 0, 0, -648);
        due("42: the sign", s.told(0, 11), 648 * 648);
        s.blank(0, 0);
        s.ask(0, 0);
        due("42: NO NUMBER", s.told(0, 11), 9 + 653 * 653);
        s.drop(0, 1);
        due("42: none fits", s.ask(0, 1), 0);
    }

    /** Promise 43. */
    private static void code() {
        VectorShelf s = sheets();
        s.cell(10, -10, 0);
        s.vector(9, 22, -17, 0);
        due("43: BAD", s.code(0, 4, 0), -2);
        due("43: BAD", s.code(0, -1, 0), -2);
        due("43: BAD", s.code(1, 1, 0), -2);
        due("43: BAD", s.code(-1, 1, 0), -2);
        due("43: -11", s.code(0, 3, 0), -11);
        due("43: -13", s.code(0, 0, 0), -13);
        due("43: -13 ahead of -12", s.code(0, 2, 9), -13);
        due("43: -12", s.code(0, 1, 4), -12);
        due("43: -12", s.code(0, 1, -1), -12);
        due("43: -12", s.code(0, 1, MAX), -12);
        items("43: refusals change nothing", s, 1, 0, 0, 0, 0, 0, 0);
        due("43: 3", s.code(0, 1, 3), 3);
        items("43: CODE", s, 1, 0, 0, 0, -1, 2, -2);
        s.set(0, 1);
        s.move(0, -999, 999, 0);
        s.code(0, 1, 0);
        items("43: CODE at its bounds", s, 1, -128, 127, 0, -1, 2, -2);
        s.drop(0, 1);
        due("43: a DROPPED one", s.code(0, 1, 0), 3);
        s.tidy(0);
        due("43: STATE", s.code(0, 1, 0), -3);
        due("43: STATE ahead of -11", s.code(0, 3, 0), -3);
        due("43: BAD ahead of STATE", s.code(0, 4, 0), -2);
    }

    /** Promise 44. */
    private static void taken() {
        VectorShelf s = new VectorShelf();
        int[] over = {1, 1 + 2, 1 + 4, 1 + 2 + 8, 1 + 4 + 16, 1 + 2 + 8 + 32};
        for (int kind = 0; kind < 6; kind++) {
            s.set(3, kind);
            for (int k = 0; k < 6; k++) {
                due("44: KIND " + kind + " for " + k, s.taken(k), (over[kind] >> k & 1) == 1 ? kind : -13);
            }
            due("44: BAD", s.taken(6), -2);
            due("44: BAD", s.taken(-1), -2);
        }
    }

    public static void main(String[] args) {
        sheet();
        put();
        blankAndItem();
        copy();
        rest();
        shelve();
        ask();
        code();
        taken();
        CHECK.end();
    }
}
