/** Every refusal that the document names, of promises 2 to 44, in its order; none changes anything. */
public final class RefusalTest {
    private static final Check CHECK = new Check();
    private static final int BAD = -2, STATE = -3, FULL = -4, MAX = Integer.MAX_VALUE, MIN = Integer.MIN_VALUE;
    private static final int[] NO_COORDINATES = {-1000, 1000, MIN, MAX};
    private static final int[] NO_VECTORS = {-1, 6, 12, MIN, MAX};
    private static final int[] NO_SHEETS = {-1, 4, MIN, MAX};
    private static final int[] NO_ITEMS = {-1, 6, MIN, MAX};
    private static final int[] NO_FLAGS = {-1, 2, MIN, MAX};
    private static final Twins EMPTY = new Twins(CHECK, "a new one", VectorShelf::new);
    private static final Twins BUSY = new Twins(CHECK, "a busy one", RefusalTest::busy);
    private static final Twins CROWDED = new Twins(CHECK, "a full one", RefusalTest::full);

    private static void tape(VectorShelf s, String text) {
        for (int i = 0; i < text.length(); i++) s.feed(text.charAt(i));
    }

    /** Vector 3 is DROPPED, 4 has no CELL; CELL 2 is empty; SHEETS of floats, bytes, shorts (6 each), one is missing. */
    private static VectorShelf busy() {
        VectorShelf s = new VectorShelf();
        s.cell(10, -20, 30);
        s.cell(-300, 200, -100);
        s.cell(900, 900, 900);
        int[] places = {11, -25, 33, -310, 190, -90, 0, 0, 0, -290, 210, -120, 15, -18, 5, 12, 12, 12};
        for (int i = 0; i < 18; i += 3) s.vector(places[i], places[i + 1], places[i + 2], i - 7);
        s.drop(4, 1);
        s.tidy(0);
        s.image();
        s.drop(3, 1);
        s.move(2, 40, 2, 1);
        int[] settings = {7, 3, 500000, 3, 2, 3, 4};
        for (int what = 0; what < 7; what++) s.set(what, settings[what]);
        s.query(-5, 60, -7);
        tape(s, "fits not number = 1;adds tag;");
        s.force(s.text());
        tape(s, "fits x < 20;adds 5*number;");
        for (int sort = 0; sort < 3; sort++) {
            s.sheet(sort, sort, 6);
            for (int i = 0; i < 6; i++) s.put(sort, i, 5 * i - 10 + sort);
        }
        return s;
    }

    private static VectorShelf full() {
        VectorShelf s = new VectorShelf();
        for (int i = 0; i < 4; i++) s.cell(200 * i - 300, 0, 50 * i);
        for (int i = 0; i < 12; i++) s.vector(60 * i - 320, 7 * i, -i, 9 * i - 50);
        for (int i = 1; i < 6; i++) {
            tape(s, "fits 1;adds " + i + ";");
            s.text();
        }
        s.image();
        s.drop(5, 1);
        s.sheet(0, 2, 13);
        for (int i = 0; i < 160; i++) s.feed(32);
        return s;
    }

    /** Promises 2, 3, 4 and 9: a place that is none, by each of its coordinates. */
    private static void places() {
        for (int bad : NO_COORDINATES) {
            for (int i = 0; i < 3; i++) {
                int x = i == 0 ? bad : 1, y = i == 1 ? bad : 2, z = i == 2 ? bad : 3;
                String at = x + ", " + y + ", " + z + ")";
                for (Twins twins : new Twins[] {EMPTY, BUSY, CROWDED}) {
                    twins.refused("2: cell(" + at, BAD, s -> s.cell(x, y, z));
                    twins.refused("3: vector(" + at, BAD, s -> s.vector(x, y, z, 0));
                    twins.refused("9: query(" + at, BAD, s -> s.query(x, y, z));
                }
                for (int one : new int[] {0, 3, 4}) BUSY.refused("4: move(" + one + ", " + at, BAD, s -> s.move(one, x, y, z));
            }
        }
    }

    /** Promises 2 to 5. */
    private static void cellsAndVectors() {
        CROWDED.refused("2: cell, FULL", FULL, s -> s.cell(0, 0, 0));
        for (int tag : new int[] {-100, 100, MIN, MAX}) {
            for (Twins twins : new Twins[] {EMPTY, BUSY, CROWDED}) {
                twins.refused("3: vector with tag " + tag, BAD, s -> s.vector(0, 0, 0, tag));
            }
        }
        EMPTY.refused("3: vector, STATE", STATE, s -> s.vector(0, 0, 0, 0));
        CROWDED.refused("3: vector, FULL", FULL, s -> s.vector(0, 0, 0, 0));
        for (int one : NO_VECTORS) {
            BUSY.refused("4: move(" + one + ")", BAD, s -> s.move(one, 0, 0, 0));
            for (int is = 0; is < 2; is++) {
                int to = is;
                BUSY.refused("5: drop(" + one + ", " + is + ")", BAD, s -> s.drop(one, to));
            }
        }
        EMPTY.refused("4: move of none", BAD, s -> s.move(0, 0, 0, 0));
        EMPTY.refused("5: drop of none", BAD, s -> s.drop(0, 0));
        BUSY.refused("4: move of a DROPPED one", STATE, s -> s.move(3, 0, 0, 0));
        BUSY.refused("4: move of one without a CELL", STATE, s -> s.move(4, 0, 0, 0));
        for (int is : NO_FLAGS) {
            for (int one : new int[] {0, 3, 4}) BUSY.refused("5: drop(" + one + ", " + is + ")", BAD, s -> s.drop(one, is));
        }
        BUSY.refused("5: drop of one without a CELL", STATE, s -> s.drop(4, 0));
        BUSY.refused("5: drop of one without a CELL", STATE, s -> s.drop(4, 1));
    }

    /** Promises 6 and 7. */
    private static void toldAndHolds() {
        for (int one : NO_VECTORS) BUSY.refused("6: told(" + one + ", 0)", -99999, s -> s.told(one, 0));
        for (int what : new int[] {-1, 13, MIN, MAX}) BUSY.refused("6: told(0, " + what + ")", -99999, s -> s.told(0, what));
        for (int what : new int[] {6, 7, 8, 12}) BUSY.refused("6: told(4, " + what + ")", -99999, s -> s.told(4, what));
        EMPTY.refused("6: told of none", -99999, s -> s.told(0, 0));
        for (int cell : new int[] {-1, 3, MIN, MAX}) BUSY.refused("7: holds(" + cell + ", 0)", -99999, s -> s.holds(cell, 0));
        for (int what : new int[] {-1, 12, MIN, MAX}) BUSY.refused("7: holds(0, " + what + ")", -99999, s -> s.holds(0, what));
        for (int at = 3; at < 10; at++) {
            int what = at;
            BUSY.refused("7: holds(2, " + what + ")", -99999, s -> s.holds(2, what));
        }
        EMPTY.refused("7: holds of none", -99999, s -> s.holds(0, 0));
    }

    /** Promise 8. */
    private static void set() {
        int[] least = {1, 0, 0, 0, 1, 1, 1};
        int[] greatest = {64, 99, 999999, 5, 9, 9, 9};
        for (int at = 0; at < 7; at++) {
            int what = at;
            for (int v : new int[] {least[at] - 1, greatest[at] + 1, MIN, MAX}) {
                BUSY.refused("8: set(" + what + ", " + v + ")", BAD, s -> s.set(what, v));
            }
        }
        for (int what : new int[] {-1, 7, MIN, MAX}) BUSY.refused("8: set(" + what + ", 1)", BAD, s -> s.set(what, 1));
    }

    /** Promises 10 to 13. */
    private static void apartToCentre() {
        for (int one : NO_VECTORS) {
            BUSY.refused("10: apart(" + one + ", 0)", BAD, s -> s.apart(one, 0));
            BUSY.refused("10: apart(0, " + one + ")", BAD, s -> s.apart(0, one));
        }
        EMPTY.refused("10: apart of none", BAD, s -> s.apart(0, 0));
        for (int n : new int[] {-1, 1000000000, MIN, MAX}) BUSY.refused("11: high(" + n + ")", BAD, s -> s.high(n));
        for (int cell : new int[] {-1, 3, 4, MIN, MAX}) BUSY.refused("12: tidy(" + cell + ")", BAD, s -> s.tidy(cell));
        CROWDED.refused("12: tidy(4)", BAD, s -> s.tidy(4));
        EMPTY.refused("12: tidy of none", BAD, s -> s.tidy(0));
        EMPTY.refused("13: centre, STATE", STATE, VectorShelf::centre);
    }

    /** Promises 14 to 16. */
    private static void texts() {
        for (int letter : new int[] {-1, 256, MIN, MAX}) {
            BUSY.refused("14: feed(" + letter + ")", BAD, s -> s.feed(letter));
            CROWDED.refused("14: feed(" + letter + "), THE TAPE being full", BAD, s -> s.feed(letter));
        }
        for (int letter : new int[] {0, 32, 255}) CROWDED.refused("14: feed(" + letter + "), FULL", FULL, s -> s.feed(letter));
        CROWDED.refused("15: text, FULL", FULL, VectorShelf::text);
        for (int text : new int[] {-1, 2, 6, MIN, MAX}) BUSY.refused("16: force(" + text + ")", BAD, s -> s.force(text));
        CROWDED.refused("16: force(6)", BAD, s -> s.force(6));
        EMPTY.refused("16: force(1)", BAD, s -> s.force(1));
    }

    /** Promises 17 to 20. */
    private static void nearToFriend() {
        for (int k : new int[] {0, 6, -1, MIN, MAX}) BUSY.refused("17: near(" + k + ", 0)", BAD, s -> s.near(k, 0));
        for (int what : new int[] {-1, 10, MIN, MAX}) BUSY.refused("17: near(1, " + what + ")", BAD, s -> s.near(1, what));
        for (int r : new int[] {-1, 1000000000, MIN, MAX}) {
            BUSY.refused("18: within(" + r + ", 0)", BAD, s -> s.within(r, 0));
            BUSY.refused("23: cover(" + r + ", 0)", BAD, s -> s.cover(r, 0));
        }
        for (int what : NO_FLAGS) {
            BUSY.refused("18: within(0, " + what + ")", BAD, s -> s.within(0, what));
            BUSY.refused("20: friend(0, " + what + ")", BAD, s -> s.friend(0, what));
            BUSY.refused("23: cover(0, " + what + ")", BAD, s -> s.cover(0, what));
            BUSY.refused("25: rounds(" + what + ")", BAD, s -> s.rounds(what));
            EMPTY.refused("25: rounds(" + what + ")", BAD, s -> s.rounds(what));
        }
        for (int one : NO_VECTORS) {
            BUSY.refused("19: rank(" + one + ")", BAD, s -> s.rank(one));
            BUSY.refused("20: friend(" + one + ", 0)", BAD, s -> s.friend(one, 0));
            BUSY.refused("20: friend(" + one + ", 1)", BAD, s -> s.friend(one, 1));
        }
        BUSY.refused("19: rank of a DROPPED one", -1, s -> s.rank(3));
        BUSY.refused("19: rank of one without a CELL", -1, s -> s.rank(4));
        BUSY.refused("19: rank of one that fits not", -1, s -> s.rank(1));
        EMPTY.refused("19: rank of none", BAD, s -> s.rank(0));
        EMPTY.refused("20: friend of none", BAD, s -> s.friend(0, 0));
    }

    /** Promises 21 to 26. */
    private static void pairToGoes() {
        for (int what : new int[] {-1, 3, MIN, MAX}) {
            for (Twins twins : new Twins[] {EMPTY, BUSY}) {
                twins.refused("21: pair(" + what + ")", BAD, s -> s.pair(what));
                twins.refused("24: two(" + what + ")", BAD, s -> s.two(what));
            }
            BUSY.refused("26: goes(" + what + ", 1)", BAD, s -> s.goes(what, 1));
        }
        for (int at = 0; at < 3; at++) {
            int what = at;
            EMPTY.refused("21: pair(" + what + ") of none", -1, s -> s.pair(what));
            EMPTY.refused("24: two(" + what + ") of none", -1, s -> s.two(what));
        }
        for (int i : new int[] {-1, 12, MIN, MAX}) {
            for (Twins twins : new Twins[] {EMPTY, BUSY, CROWDED}) {
                twins.refused("22: spread(" + i + ")", BAD, s -> s.spread(i));
            }
        }
        BUSY.refused("22: spread, fewer are THERE", -1, s -> s.spread(4));
        EMPTY.refused("22: spread, none is THERE", -1, s -> s.spread(0));
        EMPTY.refused("25: rounds(0), STATE", STATE, s -> s.rounds(0));
        EMPTY.refused("25: rounds(1), STATE", STATE, s -> s.rounds(1));
        for (int g : new int[] {-100, 100, MIN, MAX}) BUSY.refused("26: goes(0, " + g + ")", BAD, s -> s.goes(0, g));
    }

    /** Promises 27 to 29. */
    private static void costsToDrawn() {
        long no = -4611686018427387904L;
        for (int part : NO_FLAGS) {
            BUSY.refused("27: costs(" + part + ")", no, s -> s.costs(part));
            BUSY.refused("28: lot, part " + part, no, s -> s.lot(0, 1, 0, part));
        }
        EMPTY.refused("27: costs(0), none is THERE", no, s -> s.costs(0));
        EMPTY.refused("27: costs(1), none is THERE", no, s -> s.costs(1));
        for (int m : new int[] {0, 21, -1, MIN, MAX}) BUSY.refused("28: lot, m " + m, no, s -> s.lot(0, m, 0, 0));
        for (int h : new int[] {-1, 13, MIN, MAX}) BUSY.refused("28: lot, h " + h, no, s -> s.lot(0, 1, h, 0));
        for (int i : new int[] {-1, 3, MIN, MAX}) BUSY.refused("29: drawn(5, " + i + ")", -99999, s -> s.drawn(5, i));
    }

    /** Promises 30, 31, 33, 34 and 44. */
    private static void whatWasTold() {
        for (int sheet : NO_SHEETS) {
            BUSY.refused("30: tells(" + sheet + ", 0)", BAD, s -> s.tells(sheet, 0));
            BUSY.refused("31: film(" + sheet + ", 1)", BAD, s -> s.film(sheet, 1));
        }
        for (int what : new int[] {-1, 5, MIN, MAX}) {
            BUSY.refused("30: tells(0, " + what + ")", BAD, s -> s.tells(0, what));
            BUSY.refused("30: tells(3, " + what + "), BAD ahead of -11", BAD, s -> s.tells(3, what));
        }
        for (int at = 0; at < 5; at++) {
            int what = at;
            BUSY.refused("30: tells(3, " + what + "), -11", -11, s -> s.tells(3, what));
            CROWDED.refused("30: tells(0, " + what + ") of 13", BAD, s -> s.tells(0, what));
        }
        for (int n : new int[] {-1, 13, MIN, MAX}) {
            for (int at = 0; at < 4; at++) {
                int sheet = at;
                BUSY.refused("31: film(" + sheet + ", " + n + ")", BAD, s -> s.film(sheet, n));
            }
        }
        EMPTY.refused("33: back, STATE", STATE, VectorShelf::back);
        for (int what : new int[] {-1, 8, MIN, MAX}) BUSY.refused("34: count(" + what + ")", BAD, s -> s.count(what));
        for (int k : new int[] {-1, 6, MIN, MAX}) BUSY.refused("44: taken(" + k + ")", BAD, s -> s.taken(k));
        for (int k : new int[] {2, 4, 5}) BUSY.refused("44: taken(" + k + ") of DEAD", -13, s -> s.taken(k));
    }

    /** Promises 35 to 38. */
    private static void sheetToItem() {
        for (int sheet : NO_SHEETS) {
            for (int sort = -1; sort < 3; sort++) {
                int of = sort;
                BUSY.refused("35: sheet(" + sheet + ", " + sort + ", 1)", BAD, s -> s.sheet(sheet, of, 1));
            }
            BUSY.refused("36: put(" + sheet + ", 0, 1)", BAD, s -> s.put(sheet, 0, 1));
            BUSY.refused("37: blank(" + sheet + ", 0)", BAD, s -> s.blank(sheet, 0));
            BUSY.refused("38: item(" + sheet + ", 0)", -99999, s -> s.item(sheet, 0));
        }
        for (int at = 0; at < 4; at++) {
            int sheet = at;
            for (int sort : new int[] {-2, 3, MIN, MAX}) {
                BUSY.refused("35: sheet(" + sheet + ", " + sort + ", 1)", BAD, s -> s.sheet(sheet, sort, 1));
                BUSY.refused("35: BAD ahead of -14", BAD, s -> s.sheet(sheet, sort, -1));
            }
            for (int sort = 0; sort < 3; sort++) {
                int of = sort;
                for (int n : new int[] {41, MAX}) BUSY.refused("35: above 40", BAD, s -> s.sheet(sheet, of, n));
                for (int n : new int[] {-1, MIN}) BUSY.refused("35: -14", -14, s -> s.sheet(sheet, of, n));
            }
        }
        for (int i : NO_ITEMS) {
            for (int at = 0; at < 3; at++) {
                int sheet = at;
                BUSY.refused("36: put(" + sheet + ", " + i + ", 1)", -12, s -> s.put(sheet, i, 1));
                BUSY.refused("37: blank(" + sheet + ", " + i + ")", sheet == 0 ? -12 : -13, s -> s.blank(sheet, i));
                BUSY.refused("38: item(" + sheet + ", " + i + ")", -99999, s -> s.item(sheet, i));
            }
            BUSY.refused("36: put, -11 ahead of -12", -11, s -> s.put(3, i, 1));
            BUSY.refused("37: blank, -11 ahead of -12", -11, s -> s.blank(3, i));
            BUSY.refused("38: item(3, " + i + ")", -99999, s -> s.item(3, i));
        }
        BUSY.refused("36: put, -11", -11, s -> s.put(3, 0, 1));
        BUSY.refused("37: blank, -11", -11, s -> s.blank(3, 0));
        BUSY.refused("37: blank of bytes", -13, s -> s.blank(1, 0));
        BUSY.refused("37: blank of shorts", -13, s -> s.blank(2, 0));
        BUSY.refused("38: item(3, 0)", -99999, s -> s.item(3, 0));
    }

    /** Promise 39; to itself a SHEET is of the same sort. */
    private static void copy() {
        for (int sheet : NO_SHEETS) {
            BUSY.refused("39: copy from " + sheet, BAD, s -> s.copy(sheet, 0, 0, 0, 1));
            BUSY.refused("39: copy to " + sheet, BAD, s -> s.copy(0, 0, sheet, 0, 1));
            BUSY.refused("39: BAD ahead of -11", BAD, s -> s.copy(3, 0, sheet, 0, 1));
            BUSY.refused("39: BAD ahead of -12", BAD, s -> s.copy(sheet, -1, 0, -1, -1));
        }
        for (int at = 0; at < 3; at++) {
            int sheet = at;
            for (int n : new int[] {1, 0, -1, 7}) {
                BUSY.refused("39: from a missing one", -11, s -> s.copy(3, 0, sheet, 0, n));
                BUSY.refused("39: to a missing one", -11, s -> s.copy(sheet, 0, 3, 0, n));
                BUSY.refused("39: of unlike sorts", -13, s -> s.copy(sheet, 0, (sheet + 1) % 3, 0, n));
                BUSY.refused("39: -13 ahead of -12", -13, s -> s.copy(sheet, -1, (sheet + 2) % 3, 9, n));
            }
            for (int n : new int[] {-1, 7, MIN, MAX}) BUSY.refused("39: n " + n, -12, s -> s.copy(sheet, 0, sheet, 0, n));
            for (int i : new int[] {-1, 6, 7, MIN, MAX}) {
                BUSY.refused("39: from item " + i, -12, s -> s.copy(sheet, i, sheet, 0, 1));
                BUSY.refused("39: to item " + i, -12, s -> s.copy(sheet, 0, sheet, i, 1));
            }
            BUSY.refused("39: one too many from 3", -12, s -> s.copy(sheet, 3, sheet, 0, 4));
            BUSY.refused("39: one too many to 3", -12, s -> s.copy(sheet, 0, sheet, 3, 4));
            BUSY.refused("39: n below 0 in the middle", -12, s -> s.copy(sheet, 3, sheet, 1, -1));
            BUSY.refused("39: a wrap-around", -12, s -> s.copy(sheet, 1, sheet, 1, MAX));
        }
        BUSY.refused("39: both missing", -11, s -> s.copy(3, 0, 3, 0, 0));
    }

    /** Promise 40. */
    private static void rest() {
        for (int sheet : NO_SHEETS) BUSY.refused("40: rest(" + sheet + ", 0, 0)", BAD, s -> s.rest(sheet, 0, 0));
        BUSY.refused("40: -11", -11, s -> s.rest(3, 0, 1));
        BUSY.refused("40: -11 ahead of -12", -11, s -> s.rest(3, -1, 9));
        for (int sheet : new int[] {0, 2}) {
            BUSY.refused("40: -13", -13, s -> s.rest(sheet, 0, 1));
            BUSY.refused("40: -13 ahead of -12", -13, s -> s.rest(sheet, -1, 9));
        }
        for (int i : NO_ITEMS) {
            BUSY.refused("40: rest(1, " + i + ", 0)", -12, s -> s.rest(1, i, 0));
            BUSY.refused("40: rest(1, 0, " + i + ")", -12, s -> s.rest(1, 0, i));
        }
        Twins byZero = new Twins(CHECK, "one with a 0 in bytes", () -> {
            VectorShelf s = busy();
            s.put(1, 2, 256);
            return s;
        });
        byZero.refused("40: -15", -15, s -> s.rest(1, 0, 2));
        byZero.refused("40: -15, 0 by 0", -15, s -> s.rest(1, 2, 2));
        byZero.refused("40: -12 ahead of -15", -12, s -> s.rest(1, 6, 2));
    }

    /** Promises 41 and 42. */
    private static void shelveAndAsk() {
        for (int sheet : NO_SHEETS) {
            BUSY.refused("41: shelve(" + sheet + ")", BAD, s -> s.shelve(sheet, 0, 0, 1));
            BUSY.refused("42: ask(" + sheet + ", 0)", BAD, s -> s.ask(sheet, 0));
            BUSY.refused("42: BAD ahead of -12", BAD, s -> s.ask(sheet, -1));
        }
        for (int at = 0; at < 4; at++) {
            int sheet = at;
            for (int sort : new int[] {-1, 3, MIN, MAX}) {
                BUSY.refused("41: sort " + sort + " of " + sheet, BAD, s -> s.shelve(sheet, sort, 0, 1));
            }
            for (int n : new int[] {-1, 13, MIN, MAX}) {
                BUSY.refused("41: n " + n + " of " + sheet, BAD, s -> s.shelve(sheet, Math.min(sheet, 2), 0, n));
                BUSY.refused("41: BAD ahead of -13", BAD, s -> s.shelve(sheet, (sheet + 1) % 3, 0, n));
            }
        }
        for (int at = 0; at < 3; at++) {
            int sheet = at;
            for (int more = 1; more < 3; more++) {
                int sort = (at + more) % 3;
                BUSY.refused("41: -13, " + sheet + " for " + sort, -13, s -> s.shelve(sheet, sort, 0, 1));
                BUSY.refused("41: -13 ahead of -12", -13, s -> s.shelve(sheet, sort, 99, 1));
                BUSY.refused("41: -13 with n 0", -13, s -> s.shelve(sheet, sort, 0, 0));
            }
            BUSY.refused("41: -11 for sort " + sheet, -11, s -> s.shelve(3, sheet, 0, 1));
            BUSY.refused("41: -11 ahead of -12", -11, s -> s.shelve(3, sheet, -9, 1));
            BUSY.refused("41: -11 with n 0", -11, s -> s.shelve(3, sheet, 0, 0));
            for (int from : new int[] {-1, -4, 3, 6, MIN, MAX, MAX - 3}) {
                BUSY.refused("41: from " + from, -12, s -> s.shelve(sheet, sheet, from, 12));
            }
        }
        BUSY.refused("42: -11", -11, s -> s.ask(3, 0));
        BUSY.refused("42: -11 ahead of -12", -11, s -> s.ask(3, 9));
        for (int sheet : new int[] {1, 2}) {
            BUSY.refused("42: -13", -13, s -> s.ask(sheet, 0));
            BUSY.refused("42: -13 ahead of -12", -13, s -> s.ask(sheet, 9));
        }
        for (int from : new int[] {-1, -3, 4, 5, 6, MIN, MAX, MAX - 2}) {
            BUSY.refused("42: ask(0, " + from + ")", -12, s -> s.ask(0, from));
        }
    }

    /** Promise 43. */
    private static void code() {
        for (int sheet : NO_SHEETS) {
            BUSY.refused("43: code(0, " + sheet + ", 0)", BAD, s -> s.code(0, sheet, 0));
            BUSY.refused("43: BAD ahead of STATE", BAD, s -> s.code(4, sheet, 0));
        }
        for (int one : NO_VECTORS) {
            BUSY.refused("43: code(" + one + ", 1, 0)", BAD, s -> s.code(one, 1, 0));
            BUSY.refused("43: BAD ahead of -11", BAD, s -> s.code(one, 3, 0));
        }
        for (int at = 0; at < 4; at++) {
            int sheet = at;
            BUSY.refused("43: STATE, SHEET " + sheet, STATE, s -> s.code(4, sheet, 0));
            BUSY.refused("43: STATE ahead of -12", STATE, s -> s.code(4, sheet, 9));
        }
        BUSY.refused("43: -11", -11, s -> s.code(0, 3, 0));
        BUSY.refused("43: -11 ahead of -12", -11, s -> s.code(0, 3, -1));
        for (int sheet : new int[] {0, 2}) {
            BUSY.refused("43: -13", -13, s -> s.code(0, sheet, 0));
            BUSY.refused("43: -13 ahead of -12", -13, s -> s.code(0, sheet, 9));
        }
        for (int i : new int[] {-1, -3, 4, 5, 6, MIN, MAX, MAX - 2}) {
            BUSY.refused("43: code(0, 1, " + i + ")", -12, s -> s.code(0, 1, i));
        }
    }

    /** What is asked, or done "in thought", changes nothing. */
    private static void inThought() {
        for (Twins twins : new Twins[] {EMPTY, BUSY, CROWDED}) {
            twins.thought("10: apart", s -> s.apart(0, 1));
            twins.thought("17: near", s -> s.near(3, 0));
            twins.thought("18: within", s -> s.within(5000, 1));
            twins.thought("19: rank", s -> s.rank(0));
            twins.thought("20: friend", s -> s.friend(0, 1));
            twins.thought("21: pair", s -> s.pair(2));
            twins.thought("22: spread", s -> s.spread(3));
            twins.thought("23: cover", s -> s.cover(100, 1));
            twins.thought("24: two", s -> s.two(2));
            twins.thought("25: rounds", s -> s.rounds(0));
            twins.thought("25: rounds", s -> s.rounds(1));
            for (int i = 0; i < 3; i++) {
                int along = i;
                twins.thought("26: goes", s -> s.goes(along, 99));
                twins.thought("26: goes", s -> s.goes(along, -7));
            }
            twins.thought("27: costs", s -> s.costs(0));
            twins.thought("28: lot", s -> s.lot(77, 20, 2, 0));
            for (int sheet = 0; sheet < 4; sheet++) {
                for (int what = 0; what < 5; what++) {
                    int of = sheet, asked = what;
                    twins.thought("30: tells", s -> s.tells(of, asked));
                }
            }
        }
    }

    public static void main(String[] args) {
        places();
        cellsAndVectors();
        toldAndHolds();
        set();
        apartToCentre();
        texts();
        nearToFriend();
        pairToGoes();
        costsToDrawn();
        whatWasTold();
        sheetToItem();
        copy();
        rest();
        shelveAndAsk();
        code();
        inThought();
        CHECK.end();
    }
}
