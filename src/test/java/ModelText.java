import java.util.ArrayList;
import java.util.List;

/** A text of the model: whole tokens first, then a machine of states for the fault; worth by splitting. */
final class ModelText {
    /** A token that cannot be at all has the sign '!'. */
    private record Token(String word, int place) { }

    /** The place of the fault, or -1. */
    final int fault;
    private final List<String> fits = new ArrayList<>();
    private final List<String> adds = new ArrayList<>();

    ModelText(String tape) {
        List<Token> tokens = tokens(tape);
        fault = fault(tokens, tape.length());
        if (fault < 0) {
            List<String> words = new ArrayList<>();
            for (Token t : tokens) words.add(t.word);
            int half = words.indexOf(";");
            fits.addAll(words.subList(1, half));
            adds.addAll(words.subList(half + 2, words.size() - 1));
        }
    }

    private static List<Token> tokens(String tape) {
        List<Token> out = new ArrayList<>();
        java.util.regex.Matcher m = java.util.regex.Pattern.compile("[a-z]+|[0-9]+|[();+\\-*<=]|[ \\n]|(?s:.)").matcher(tape);
        while (m.find()) {
            String w = m.group();
            if (w.equals(" ") || w.equals("\n")) continue;
            boolean known = w.matches("fits|adds|or|and|not|x|y|z|tag|number|cell|[0-9]{1,4}|[();+\\-*<=]");
            out.add(new Token(known ? w : "!", m.start()));
        }
        return out;
    }

    private static boolean isOperand(String w) {
        return w.matches("x|y|z|tag|number|cell|[0-9]+");
    }

    private static int fault(List<Token> tokens, int size) {
        int part = 0;
        boolean wantsOne = false;
        boolean mayNot = false;
        // Of each ( that is open, and of the whole: whether a comparison came already.
        List<Boolean> compared = new ArrayList<>();
        List<String> open = new ArrayList<>();
        for (Token t : tokens) {
            String w = t.word;
            if (part == 0 || part == 2) {
                if (!w.equals(part == 0 ? "fits" : "adds")) return t.place;
                part++;
                wantsOne = true;
                mayNot = true;
                compared.add(false);
                continue;
            }
            if (part == 4) return t.place;
            int last = compared.size() - 1;
            if (wantsOne) {
                if (isOperand(w)) {
                    wantsOne = false;
                    mayNot = false;
                    while (!open.isEmpty() && open.get(open.size() - 1).equals("-")) open.remove(open.size() - 1);
                } else if (w.equals("(") || w.equals("-") || w.equals("not") && mayNot) {
                    if (open.size() == 5) return t.place;
                    open.add(w);
                    if (w.equals("(")) { compared.add(false); mayNot = true; }
                    if (w.equals("-")) mayNot = false;
                } else {
                    return t.place;
                }
                continue;
            }
            switch (w) {
                case "+": case "-": case "*":
                    wantsOne = true;
                    break;
                case "<": case "=":
                    if (compared.get(last)) return t.place;
                    compared.set(last, true);
                    wantsOne = true;
                    break;
                case "and": case "or":
                    while (!open.isEmpty() && open.get(open.size() - 1).equals("not")) open.remove(open.size() - 1);
                    compared.set(last, false);
                    wantsOne = true;
                    mayNot = true;
                    break;
                case ")":
                    if (last == 0) return t.place;
                    compared.remove(last);
                    while (!open.get(open.size() - 1).equals("(")) open.remove(open.size() - 1);
                    open.remove(open.size() - 1);
                    while (!open.isEmpty() && open.get(open.size() - 1).equals("-")) open.remove(open.size() - 1);
                    break;
                case ";":
                    if (last != 0) return t.place;
                    compared.clear();
                    open.clear();
                    part++;
                    break;
                default:
                    return t.place;
            }
        }
        return part == 4 ? -1 : size;
    }

    int fits(Model.State s, Model.Vec v) { return worth(fits, s, v); }
    int adds(Model.State s, Model.Vec v) { return worth(adds, s, v); }

    /** The places of the words that stand in no ( and are one of these; a - only behind a ONE. */
    private static List<Integer> at(List<String> e, String... words) {
        List<Integer> out = new ArrayList<>();
        int deep = 0;
        for (int i = 0; i < e.size(); i++) {
            String w = e.get(i);
            if (w.equals("(")) deep++;
            if (w.equals(")")) deep--;
            boolean behind = i > 0 && (isOperand(e.get(i - 1)) || e.get(i - 1).equals(")"));
            if (deep == 0 && behind && List.of(words).contains(w)) out.add(i);
        }
        return out;
    }

    private static int worth(List<String> e, Model.State s, Model.Vec v) {
        for (String[] level : new String[][] {{"or"}, {"and"}}) {
            List<Integer> at = at(e, level);
            if (!at.isEmpty()) {
                int i = at.get(at.size() - 1);
                boolean a = worth(e.subList(0, i), s, v) != 0, b = worth(e.subList(i + 1, e.size()), s, v) != 0;
                return (level[0].equals("or") ? a || b : a && b) ? 1 : 0;
            }
        }
        if (e.get(0).equals("not")) return worth(e.subList(1, e.size()), s, v) == 0 ? 1 : 0;
        for (String[] level : new String[][] {{"<", "="}, {"+", "-"}, {"*"}}) {
            List<Integer> at = at(e, level);
            if (!at.isEmpty()) {
                int i = at.get(at.size() - 1);
                int a = worth(e.subList(0, i), s, v), b = worth(e.subList(i + 1, e.size()), s, v);
                switch (e.get(i)) {
                    case "<": return a < b ? 1 : 0;
                    case "=": return a == b ? 1 : 0;
                    case "+": return a + b;
                    case "-": return a - b;
                    default: return a * b;
                }
            }
        }
        if (e.get(0).equals("-")) return -worth(e.subList(1, e.size()), s, v);
        if (e.get(0).equals("(")) return worth(e.subList(1, e.size() - 1), s, v);
        switch (e.get(0)) {
            case "x": return v.place[0];
            case "y": return v.place[1];
            case "z": return v.place[2];
            case "tag": return v.tag;
            case "number": return v.number;
            case "cell": return v.cell;
            default: return Integer.parseInt(e.get(0));
        }
    }
}
