import java.util.ArrayList;
import java.util.List;

/** Two shelves made alike, of which one gets a call that must change nothing: all that can be asked is alike then. */
final class Twins {
    interface Maker {
        VectorShelf make();
    }

    interface Call {
        long of(VectorShelf s);
    }

    private final Check check;
    private final String name;
    private final Maker maker;

    Twins(Check check, String name, Maker maker) {
        this.check = check;
        this.name = name;
        this.maker = maker;
    }

    /** The call answers what is due and changes nothing. */
    void refused(String call, long due, Call of) {
        VectorShelf one = maker.make();
        check.due(call + " of " + name, of.of(one), due);
        unlike(call, one);
    }

    /** The call answers whatever it answers, and changes nothing. */
    void thought(String call, Call of) {
        VectorShelf one = maker.make();
        of.of(one);
        unlike(call, one);
    }

    private void unlike(String call, VectorShelf one) {
        List<String> left = seen(one);
        List<String> right = seen(maker.make());
        for (int i = 0; i < Math.min(left.size(), right.size()); i++) {
            if (!left.get(i).equals(right.get(i))) {
                check.due(call + " of " + name + " changes " + left.get(i) + " from " + right.get(i), 1, 0);
                return;
            }
        }
        check.due(call + " of " + name + " changes nothing", left.size(), right.size());
    }

    /** All that can be asked of a shelf; at the end it is another one. */
    private static List<String> seen(VectorShelf s) {
        List<String> out = new ArrayList<>();
        counts(s, out);
        vectorsAndCells(s, out);
        sheets(s, out);
        for (int what = 0; what < 10; what++) out.add("near(2, " + what + ") = " + s.near(2, what));
        texts(s, out);
        for (int what = 0; what < 7; what++) out.add("set(" + what + ") = " + s.set(what, 1));
        out.add("back() = " + s.back());
        counts(s, out);
        for (int one = 0; one < Math.min(4, s.count(0)); one++) {
            for (int what = 0; what < 12; what++) out.add("then told(" + one + ", " + what + ") = " + s.told(one, what));
        }
        for (int what = 0; what < 7; what++) out.add("then set(" + what + ") = " + s.set(what, 1));
        return out;
    }

    private static void counts(VectorShelf s, List<String> out) {
        for (int what = 0; what < 8; what++) out.add("count(" + what + ") = " + s.count(what));
    }

    private static void vectorsAndCells(VectorShelf s, List<String> out) {
        for (int one = 0; one < s.count(0); one++) {
            for (int what = 0; what < 13; what++) out.add("told(" + one + ", " + what + ") = " + s.told(one, what));
        }
        for (int cell = 0; cell < s.count(1); cell++) {
            for (int what = 0; what < 12; what++) out.add("holds(" + cell + ", " + what + ") = " + s.holds(cell, what));
        }
    }

    /** Refused calls tell whether a sheet is missing and of which sort it is. */
    private static void sheets(VectorShelf s, List<String> out) {
        for (int sheet = 0; sheet < 4; sheet++) {
            out.add("missing " + sheet + ": " + s.put(sheet, 40, 0));
            out.add("floats " + sheet + ": " + s.blank(sheet, 40));
            out.add("bytes " + sheet + ": " + s.rest(sheet, 40, 40));
            long item = 0;
            for (int i = 0; i < 14 && item != -99999; i++) {
                item = s.item(sheet, i);
                out.add("item(" + sheet + ", " + i + ") = " + item);
            }
        }
    }

    private static void texts(VectorShelf s, List<String> out) {
        out.add("text() = " + s.text());
        for (int text = 0; text < s.count(3); text++) {
            out.add("force(" + text + ") = " + s.force(text));
            for (int one = 0; one < Math.min(3, s.count(0)); one++) {
                out.add("FITS by " + text + ": " + s.told(one, 9));
                out.add("PUSH by " + text + ": " + s.told(one, 10));
            }
        }
    }
}
