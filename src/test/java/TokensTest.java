/** The edges of texts that Terms 1 names: bytes, words, numbers, signs, how many are open, wrap-arounds. */
public final class TokensTest {
    private static final Check CHECK = new Check();

    private static void due(String call, long got, long want) {
        CHECK.due(call, got, want);
    }

    private static int told(VectorShelf s, String text) {
        for (int i = 0; i < text.length(); i++) s.feed(text.charAt(i));
        return s.text();
    }

    /** A text is right (place -1), or at fault at a place; THE TAPE is empty by both. */
    private static void place(String text, int place) {
        VectorShelf s = new VectorShelf();
        due("15: text of " + text, told(s, text), place < 0 ? 1 : -100 - place);
        due("15: THE TAPE is empty", s.count(4), 0);
        due("15: how many TEXTS", s.count(3), place < 0 ? 2 : 1);
    }

    /** What E is worth of a vector, as fits tells it: whether it is as due. */
    private static void worth(String e, int[] at, int tag, int due) {
        VectorShelf s = new VectorShelf();
        s.cell(at[0], at[1], at[2]);
        s.vector(at[0], at[1], at[2], tag);
        String wanted = due < 0 ? "-" + -due : "" + due;
        due("15: text of " + e, told(s, "fits " + e + " = " + wanted + ";adds 0;"), 1);
        s.force(1);
        due("15: " + e + " of " + at[0] + ", " + at[1] + ", " + at[2] + ", " + tag, s.told(0, 9), 1);
    }

    /** Every byte, where a SIGN may stand, at the beginning, at the end, in a WORD. */
    private static void bytes() {
        for (char b = 0; b < 256; b++) {
            boolean isBlank = b == 32 || b == 10;
            boolean mayFollow = "+-*<=;".indexOf(b) >= 0;
            place("fits 1 " + b + ";adds 0;", isBlank ? -1 : mayFollow ? 8 : 7);
            place(b + "fits 1;adds 0;", isBlank ? -1 : 0);
            place("fits 1;adds 0;" + b, isBlank ? -1 : 14);
            place("fits 1;" + b + "adds 0;", isBlank ? -1 : 7);
            place("fi" + b + "ts 1;adds 0;", 0);
            boolean isWorth = b >= '0' && b <= '9' || "xyz".indexOf(b) >= 0;
            String lone = "fits " + b + ";adds 0;";
            place(lone, isWorth ? -1 : "(-".indexOf(b) >= 0 || isBlank ? 6 : 5);
        }
    }

    /** WORDS: one letter less, more, another, doubled. */
    private static void words() {
        for (String word : new String[] {"x", "y", "z", "tag", "number", "cell"}) {
            place("fits " + word + ";adds " + word + ";", -1);
            for (int i = 0; i < word.length(); i++) {
                String less = word.substring(0, i) + word.substring(i + 1);
                if (!less.isEmpty()) place("fits " + less + ";adds 0;", 5);
                place("fits " + word.substring(0, i) + "q" + word.substring(i + 1) + ";adds 0;", 5);
                String upper = word.substring(0, i) + Character.toUpperCase(word.charAt(i)) + word.substring(i + 1);
                place("fits " + upper + ";adds 0;", 5);
            }
            place("fits " + word + "a;adds 0;", 5);
            place("fits a" + word + ";adds 0;", 5);
            place("fits " + word + word + ";adds 0;", 5);
            place("fits " + word + " " + word + ";adds 0;", 6 + word.length());
            place("fits " + word + "1;adds 0;", 5 + word.length());
            place("fits 1" + word + ";adds 0;", 6);
        }
        for (String key : new String[] {"fits", "adds", "or", "and", "not"}) {
            place("fits " + key + ";adds 0;", key.equals("not") ? 8 : 5);
            place("fits 1 " + key + " 1;adds 0;", key.equals("or") || key.equals("and") ? -1 : 7);
            place("fits 1 " + key + "s 1;adds 0;", 7);
            place("fits 1 " + key.substring(1) + " 1;adds 0;", 7);
            place("fits 1;" + key + " 1;", key.equals("adds") ? -1 : 7);
            place(key + " 1;adds 1;", key.equals("fits") ? -1 : 0);
            place("fits 1;adds 1;" + key, 14);
        }
        place("fitsx;adds 0;", 0);
        place("fits 1;addsx;", 7);
        place("fits notx;adds 0;", 5);
        place("fits not1;adds 0;", -1);
        place("fits 1or 2;adds 0;", -1);
        place("fits 1 or2;adds 0;", -1);
        place("fits x orx;adds 0;", 7);
        place("fits 1 or and 1;adds 0;", 10);
        place("fits 1 or not 1;adds 0;", -1);
        place("fits 1 and not not 1;adds 0;", -1);
    }

    /** NUMBERS of one to four digits, five are too long; 0 ahead of others stands for nothing. */
    private static void numbers() {
        int[] none = {0, 0, 0};
        worth("0", none, 0, 0);
        worth("9", none, 0, 9);
        worth("10", none, 0, 10);
        worth("9999", none, 0, 9999);
        worth("0001", none, 0, 1);
        worth("0999", none, 0, 999);
        worth("0000", none, 0, 0);
        place("fits 99999;adds 0;", 5);
        place("fits 10000;adds 0;", 5);
        place("fits 00001;adds 0;", 5);
        place("fits 123456789012345678901234567890;adds 0;", 5);
        place("fits 1 2345;adds 0;", 7);
        place("fits 1 23456;adds 0;", 7);
        place("fits -10000;adds 0;", 6);
        place("fits 1+00000;adds 0;", 7);
        place("12345", 0);
        place("fits 1;adds 12345", 12);
    }

    /** A text that ends too early is at fault at its size, blanks at its end counted. */
    private static void ends() {
        String text = "fits not (x < 1) and -y = 2 or z * 3;adds 4 + 5;";
        for (int size = 0; size < text.length(); size++) {
            String part = text.substring(0, size);
            int last = Math.max(part.lastIndexOf(' '), Math.max(part.lastIndexOf(';'), Math.max(part.lastIndexOf('('), part.lastIndexOf('-'))));
            String word = part.substring(last + 1);
            boolean isCut = word.matches("f|fi|fit|n|no|a|an|o|ad|add");
            place(part, isCut ? last + 1 : size);
            if (!isCut) place(part + " \n ", size + 3);
        }
        place(text, -1);
        place("fits 1;adds 0", 13);
        StringBuilder blanks = new StringBuilder();
        for (int i = 0; i < 160; i++) blanks.append(i % 2 == 0 ? ' ' : '\n');
        place(blanks.toString(), 160);
        place("fits 1;adds 0;" + blanks.substring(14), -1);
        place(blanks.substring(14) + "fits 1;adds 0;", -1);
        place(blanks.substring(13) + "fits 1;adds 0", 160);
        place("fits 1;adds 0;" + blanks.substring(15) + "x", 159);
    }

    /** Five ( , not and - may be open, of whichever of them; a sixth is the FAULT, in fits and in adds. */
    private static void open() {
        int ways = 0;
        for (int n = 0; n < 243; n++) {
            String ahead = "";
            String behind = "";
            boolean can = true;
            boolean isMinus = false;
            for (int i = 0, rest = n; i < 5; i++, rest /= 3) {
                int which = rest % 3;
                can &= !(which == 1 && isMinus);
                isMinus = which == 2;
                ahead += which == 0 ? "(" : which == 1 ? "not " : "-";
                behind += which == 0 ? ")" : "";
            }
            if (can) {
                ways++;
                fiveAreOpen(ahead, behind);
            }
        }
        due("15: ways in which five are open", ways, 144);
    }

    private static void fiveAreOpen(String ahead, String behind) {
        int five = 5 + ahead.length();
        place("fits " + ahead + "x" + behind + ";adds 0;", -1);
        place("fits 0;adds " + ahead + "x" + behind + ";", -1);
        for (String sixth : new String[] {"(", "-", "not "}) {
            place("fits " + ahead + sixth + "x" + behind + ";adds 0;", five);
            place("fits 0;adds " + ahead + sixth + "x" + behind + ";", five + 7);
        }
        place("fits " + ahead + "x" + behind + " and (((((1)))));adds 0;", -1);
        place("fits " + ahead + "x" + behind + " or not not not not not 1;adds (((((1)))));", -1);
    }

    /** A ( is open till its ), not and - till what they belong to ends. */
    private static void closes() {
        place("fits (((((1)))))*(((((1)))));adds 0;", -1);
        place("fits (((((1))))) < (((((1)))));adds (((((1)))))+(((((1)))));", -1);
        place("fits -----1------1;adds 0;", -1);
        place("fits -----1-------1;adds 0;", 17);
        place("fits -----1+-----1;adds 0;", -1);
        place("fits -----1--1;adds 0;", -1);
        place("fits -----x*-----x;adds 0;", -1);
        place("fits ((((1-(1)))));adds 0;", -1);
        place("fits (((((1-1)))));adds 0;", -1);
        place("fits (((((1-(1))))));adds 0;", 12);
        place("fits (((((1--1)))));adds 0;", 12);
        place("fits ((((1)-(1))));adds 0;", -1);
        place("fits ((((-1-(1)))));adds 0;", -1);
        place("fits ----(1)-(1);adds 0;", -1);
        place("fits ----(1-(1));adds 0;", 12);
        place("fits ---(1-(1));adds 0;", -1);
        place("fits not not not not not x<1 and not not not not not x<1;adds 0;", -1);
        place("fits not not not not not x<(1);adds 0;", 27);
        place("fits not not not not x<(1);adds 0;", -1);
        place("fits not not not not not x<-1;adds 0;", 27);
        place("fits not not not not (1)<(1)+-1;adds 0;", -1);
        place("fits not not not not (1)<(-1);adds 0;", 26);
        place("fits (not not not not x) and (((((x)))));adds 0;", -1);
        place("fits (not not not not x and (1));adds 0;", -1);
        place("fits (not not not not x or (((1))));adds 0;", -1);
        place("fits (not not not not x or ((((1)))));adds 0;", -1);
        place("fits (not not not not x or (((((1))))));adds 0;", 31);
        place("fits ((((1);adds 0;", 11);
        place("fits (1));adds 0;", 8);
    }

    /** One < or = in a NOT, more by ( ). */
    private static void comparisons() {
        for (String a : new String[] {"<", "="}) {
            for (String b : new String[] {"<", "="}) {
                place("fits 1" + a + "2" + b + "3;adds 0;", 8);
                place("fits (1" + a + "2)" + b + "3;adds 0;", -1);
                place("fits 1" + a + "(2" + b + "3);adds 0;", -1);
                place("fits 1" + a + "2 and 2" + b + "3;adds 0;", -1);
                place("fits not 1" + a + "2" + b + "3;adds 0;", 12);
                place("fits 1" + a + b + "2;adds 0;", 7);
            }
            place("fits " + a + "1;adds 0;", 5);
            place("fits 1" + a + ";adds 0;", 7);
            place("fits 1" + a + "not 1;adds 0;", 7);
        }
        int[] none = {0, 0, 0};
        String[] truths = {"1<2", "1<1", "2<1", "1=1", "1=2", "-1<0", "0<-1", "-1=-1"};
        int[] are = {1, 0, 0, 1, 0, 1, 0, 1};
        for (int i = 0; i < truths.length; i++) worth("(" + truths[i] + ")", none, 0, are[i]);
    }

    /** What is not 0 is true, below 0, too; true is 1. */
    private static void truths() {
        int[] none = {0, 0, 0};
        int[] worths = {0, 1, 2, -1, -2};
        for (int a : worths) {
            for (int b : worths) {
                worth("(" + a + " and " + b + ")", none, 0, a != 0 && b != 0 ? 1 : 0);
                worth("(" + a + " or " + b + ")", none, 0, a != 0 || b != 0 ? 1 : 0);
            }
            worth("(not " + a + ")", none, 0, a == 0 ? 1 : 0);
            worth("(not not " + a + ")", none, 0, a == 0 ? 0 : 1);
            worth("(" + a + ")", none, 0, a);
            VectorShelf s = new VectorShelf();
            s.cell(0, 0, 0);
            s.vector(0, 0, 0, 0);
            told(s, "fits " + a + ";adds 0;");
            s.force(1);
            due("T1: FITS by " + a, s.told(0, 9), a == 0 ? 0 : 1);
        }
    }

    /** 32 bits, wrapping: 2147483647 is followed by -2147483648. */
    private static void wraps() {
        int[] none = {0, 0, 0};
        String least = "(2048*1024*1024)";
        worth("(" + least + "<0)", none, 0, 1);
        worth("(" + least + "-1<0)", none, 0, 0);
        worth("(0<" + least + "-1)", none, 0, 1);
        worth("(" + least + "-1+1=" + least + ")", none, 0, 1);
        worth("(-" + least + "=" + least + ")", none, 0, 1);
        worth("(0-" + least + "<0)", none, 0, 1);
        worth(least + "*2", none, 0, 0);
        worth("(" + least + "-1)*2", none, 0, -2);
        worth("(9999*9999*9999=-1027*1000*1000-349*1000-969)", none, 0, 1);
        worth("(9999*9999*22<0)", none, 0, 1);
        worth("(" + least + "<" + least + "-1)", none, 0, 1);
        worth("(not " + least + ")", none, 0, 0);
        int[] push = {-2147483648, -1, 0, 1, 98, 99, 100, 2147483647};
        String[] adds = {least, "-1", "0", "1", "98", "99", "100", least + "-1"};
        int[] due = {0, 0, 0, 1, 98, 99, 99, 99};
        for (int i = 0; i < push.length; i++) {
            VectorShelf s = new VectorShelf();
            s.cell(0, 0, 0);
            s.vector(3, 0, 0, 0);
            told(s, "fits 1;adds " + adds[i] + ";");
            s.force(1);
            due("T1: PUSH of " + push[i], s.told(0, 10), due[i]);
            due("T1: FAR by " + push[i], s.told(0, 11), 9 + due[i]);
        }
    }

    /** NAMES at the bounds of what they tell. */
    private static void names() {
        for (int[] at : new int[][] {{-999, 999, -998}, {999, -999, 998}, {0, 0, 0}}) {
            worth("x", at, 0, at[0]);
            worth("y", at, 0, at[1]);
            worth("z", at, 0, at[2]);
        }
        worth("tag", new int[3], -99, -99);
        worth("tag", new int[3], 99, 99);
        VectorShelf s = new VectorShelf();
        for (int i = 0; i < 4; i++) s.cell(100 * i, 0, 0);
        for (int i = 0; i < 12; i++) s.vector(100 * (i % 4), 0, 0, 0);
        told(s, "fits number + 1;adds cell*20 + number;");
        s.force(1);
        due("T1: all fit", s.count(6), 12);
        for (int i = 0; i < 12; i++) due("T1: number and cell", s.told(i, 10), 20 * (i % 4) + i);
        s.drop(11, 1);
        s.tidy(3);
        due("T1: cell of one without a CELL is -1", s.told(11, 10), 0);
        told(s, "fits 1;adds cell + 2;");
        s.force(2);
        due("T1: cell of one without a CELL is -1", s.told(11, 10), 1);
        due("T1: cell of the first", s.told(0, 10), 2);
        s.move(0, 300, 0, 0);
        due("T1: cell of one that moved", s.told(0, 10), 5);
    }

    /** THE TAPE of 160 bytes, six TEXTS with TEXT 0; a FAULT takes no room. */
    private static void room() {
        VectorShelf s = new VectorShelf();
        for (int i = 1; i < 6; i++) {
            due("15: at fault", told(s, "fits 1;adds " + i), -113);
            due("15: number", told(s, "fits number=" + i + ";adds " + i + ";"), i);
            due("34: TEXTS", s.count(3), i + 1);
        }
        due("15: FULL, THE TAPE being empty", s.text(), -4);
        for (int i = 1; i <= 160; i++) due("14: byte " + i, s.feed('f'), i);
        due("14: FULL", s.feed('f'), -4);
        due("15: FULL ahead of a FAULT", s.text(), -4);
        due("15: THE TAPE stays", s.count(4), 160);
        for (int i = 5; i >= 0; i--) due("16: which was", s.force(i), i == 5 ? 0 : i + 1);
        due("33: no IMAGE", s.back(), -3);
        nothingStaysOfAFault();
        VectorShelf t = new VectorShelf();
        for (int i = 0; i < 160; i++) t.feed(i % 8 == 0 ? 'x' : ' ');
        due("15: at fault, 160 bytes", t.text(), -100);
        due("14: room again", t.feed(0), 1);
    }

    /** A text at fault, of which much was right, and a short one behind it. */
    private static void nothingStaysOfAFault() {
        VectorShelf s = new VectorShelf();
        s.cell(0, 0, 0);
        s.vector(0, 0, 0, 0);
        due("15: at fault", told(s, "fits 1;adds 1+2+3+4+5*6*7 q;"), -126);
        due("15: RULE stays", s.count(5), 0);
        due("15: the next one", told(s, "fits 1;adds 7;"), 1);
        s.force(1);
        due("15: is worth what it says", s.told(0, 10), 7);
        due("15: at fault", told(s, "fits 0;adds 0;;"), -114);
        due("15: the one ahead stays", s.told(0, 10), 7);
        due("15: of three bytes", told(s, "fit"), -100);
        due("15: the next one", told(s, "fits 0;adds 1;"), 2);
        s.force(2);
        due("15: is worth what it says", s.told(0, 9), 0);
        due("15: is worth what it says", s.told(0, 10), 1);
    }

    public static void main(String[] args) {
        bytes();
        words();
        numbers();
        ends();
        open();
        closes();
        comparisons();
        truths();
        wraps();
        names();
        room();
        CHECK.end();
    }
}
