/** Promises 14 to 16: the tape, texts, the rule. */
public final class TextsTest {
    private static final Check CHECK = new Check();

    private static void due(String call, long got, long want) {
        CHECK.due(call, got, want);
    }

    private static int told(VectorShelf s, String text) {
        for (int i = 0; i < text.length(); i++) s.feed(text.charAt(i));
        return s.text();
    }

    /** Promise 14. */
    private static void feed() {
        VectorShelf s = new VectorShelf();
        due("14: BAD", s.feed(-1), -2);
        due("14: BAD", s.feed(256), -2);
        due("14: first", s.feed(0), 1);
        due("14: second", s.feed(255), 2);
        due("14: a fault empties THE TAPE", s.text(), -100);
        for (int i = 1; i <= 160; i++) due("14: byte", s.feed(32), i);
        due("14: FULL", s.feed(32), -4);
        due("14: BAD ahead of FULL", s.feed(256), -2);
        due("14: count(4)", s.count(4), 160);
        due("14: 160 blanks", s.text(), -260);
        due("14: empty", s.count(4), 0);
        StringBuilder long160 = new StringBuilder("fits 1;adds 7");
        while (long160.length() < 159) long160.append("+0");
        due("14: 159 bytes so far", long160.length(), 159);
        due("14: a text of 160 bytes", told(s, long160 + ";"), 1);
    }

    /** Promise 15: what a text is worth. */
    private static void worth() {
        Object[][] due = {
            {"x", 3}, {"-y", 4}, {"z", 5}, {"tag", 7}, {"number", 1}, {"cell", 2},
            {"1+2*3", 7}, {"(1+2)*3", 9}, {"10-3-2", 5}, {"10-(3-2)", 9}, {"2*-3+10", 4}, {"--x", 3}, {"-(y+1)", 3},
            {"x<5", 1}, {"x<3", 0}, {"x=3", 1}, {"x=4", 0}, {"y<-3", 1},
            {"not x", 0}, {"not 0", 1}, {"not not 7", 1}, {"not 1 = 2", 1}, {"not 3 + 4", 0},
            {"1 and 2", 1}, {"1 and 0", 0}, {"0 or 5", 1}, {"0 or 0", 0}, {"1 or 0 and 0", 1}, {"(1 or 0) and 0", 0},
            {"x and y", 1}, {"not 0 and 0", 0}, {"0007", 7}, {"0000", 0}, {"99", 99}, {"100", 99}, {"0-5", 0},
            {"-1000", 0}, {"9999*9999*9999", 0}, {"-(9999*9999*9999)", 99}, {"\n\n8 \n", 8}, {"not(x)+1", 0},
            {"(((((6)))))", 6}, {"-----y", 4}, {"4*(x<5)*(2+tag)", 36}, {"1 + 2 < 4 and 2 * 2 = 4", 1}, {"5 ", 5},
        };
        for (Object[] row : due) {
            VectorShelf t = new VectorShelf();
            t.cell(0, 0, 0);
            t.cell(1, 0, 0);
            t.cell(3, -4, 5);
            t.vector(0, 0, 0, 0);
            t.vector(3, -4, 5, 7);
            due("15: " + row[0], told(t, "fits number;adds " + row[0] + ";"), 1);
            t.force(1);
            due("15: PUSH by " + row[0], t.told(1, 10), (Integer) row[1]);
            due("15: FAR by " + row[0], t.told(1, 11), 50 + (Integer) row[1]);
            due("15: FITS by number", t.count(6), 1);
        }
    }

    /** Promise 15: where a text is at fault. */
    private static void faults() {
        Object[][] due = {
            {"", 0}, {"  ", 2}, {"fits", 4}, {"fits ", 5}, {"fits 1", 6}, {"fits 1;", 7}, {"fits 1 ; adds", 13},
            {"fits 1;adds 0", 13}, {"fits 1;adds 0;;", 14}, {"fits 1;adds 0; x", 15}, {"adds 1;fits 0;", 0},
            {"fits 1;fits 0;", 7}, {"fit 1;adds 0;", 0}, {"fitsx;adds 0;", 0}, {"Fits 1;adds 0;", 0},
            {"fits 12345;adds 0;", 5}, {"fits 00000;adds 0;", 5}, {"fits q;adds 0;", 5}, {"fits xy;adds 0;", 5},
            {"fits 1 1;adds 0;", 7}, {"fits 1x;adds 0;", 6}, {"fits 1A;adds 0;", 6}, {"fits 1\t;adds 0;", 6},
            {"fits 1\r;adds 0;", 6}, {"fits \u00e9;adds 0;", 5}, {"fits ;adds 0;", 5}, {"fits );adds 0;", 5},
            {"fits 1);adds 0;", 6}, {"fits (1;adds 0;", 7}, {"fits ();adds 0;", 6}, {"fits 1<2<3;adds 0;", 8},
            {"fits 1=2<3;adds 0;", 8}, {"fits (1<2)<3;adds 0+;", 20}, {"fits x<not 1;adds 0;", 7},
            {"fits x+not 1;adds 0;", 7}, {"fits -not 1;adds 0;", 6}, {"fits 2*not 1;adds 0;", 7},
            {"fits +1;adds 0;", 5}, {"fits 1+*2;adds 0;", 7}, {"fits and 1;adds 0;", 5}, {"fits 1 and;adds 0;", 10},
            {"fits 1 and or 2;adds 0;", 11}, {"fits 1 or;adds 0;", 9}, {"fits 1 not 2;adds 0;", 7},
            {"fits fits;adds 0;", 5}, {"fits adds;adds 0;", 5}, {"fits ((((((1))))));adds 0;", 10},
            {"fits ------1;adds 0;", 10}, {"fits not not not not not not 1;adds 0;", 25},
            {"fits -(-(-(1)));adds 0;", 10}, {"fits not(not(not(1)));adds 0;", 16}, {"fits not -(not(1));adds 0;", -1},
            {"fits not -(not(-1));adds 0;", 15}, {"fits (((((-1)))));adds 0;", 10}, {"fits (((((1-1)))));adds 0;", -1},
            {"fits -----1-1-(1);adds 0;", -1}, {"fits ((((1))))*((((-1))));adds 0;", -1},
            {"fits not not not not not 1<2 and (1);adds 0;", -1}, {"fits not not not not not 1<(2);adds 0;", 27},
            {"fits 1;adds not x < 3 or (y = 2) and -z;", -1}, {"\nfits 1\n;\nadds\n0;\n ", -1}, {"fits1;adds0;", -1},
            {"fits 1;adds 0;A", 14}, {"fits 1;adds 0;12345", 14}, {"fits (1 ;adds q;", 8}, {"fits 1;adds 12 34;", 15},
        };
        for (Object[] row : due) {
            VectorShelf s = new VectorShelf();
            int place = (Integer) row[1];
            due("15: text of " + row[0], told(s, (String) row[0]), place < 0 ? 1 : -100 - place);
            due("15: THE TAPE is empty", s.count(4), 0);
            due("15: TEXTS", s.count(3), place < 0 ? 2 : 1);
        }
    }

    /** Promise 15: six texts at most. */
    private static void full() {
        VectorShelf s = new VectorShelf();
        for (int i = 1; i < 6; i++) due("15: number", told(s, "fits 1;adds " + i + ";"), i);
        s.feed(65);
        due("15: FULL ahead of all", s.text(), -4);
        due("15: THE TAPE stays", s.count(4), 1);
        due("15: TEXTS", s.count(3), 6);
        s.cell(0, 0, 0);
        s.vector(0, 0, 0, 0);
        for (int i = 1; i < 6; i++) {
            s.force(i);
            due("15: each its own", s.told(0, 10), i);
        }
    }

    /** Promise 16. */
    private static void force() {
        VectorShelf s = new VectorShelf();
        due("16: BAD", s.force(1), -2);
        due("16: BAD", s.force(-1), -2);
        due("16: TEXT 0", s.force(0), 0);
        told(s, "fits not(tag<0);adds tag;");
        due("16: which was", s.force(1), 0);
        due("16: count(5)", s.count(5), 1);
        s.cell(0, 0, 0);
        s.vector(0, 0, 0, 5);
        s.vector(0, 0, 0, -5);
        due("16: fits", s.told(0, 9), 1);
        due("16: fits not", s.told(1, 9), 0);
        due("16: PUSH", s.told(0, 10), 5);
        due("16: PUSH below 0", s.told(1, 10), 0);
        due("16: BAD", s.force(2), -2);
        due("16: which was", s.force(0), 1);
        due("16: fits by TEXT 0", s.told(1, 9), 1);
        due("16: PUSH by TEXT 0", s.told(0, 10), 0);
        told(s, "fits cell + 1;adds cell + 5;");
        s.force(2);
        s.drop(1, 1);
        s.tidy(0);
        due("16: cell of none is -1", s.told(1, 10), 4);
        due("16: cell", s.told(0, 10), 5);
    }

    public static void main(String[] args) {
        feed();
        worth();
        faults();
        full();
        force();
        CHECK.end();
    }
}
