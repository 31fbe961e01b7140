import java.lang.reflect.InvocationTargetException;
import java.lang.reflect.Method;
import java.util.ArrayList;
import java.util.HashMap;
import java.util.List;
import java.util.Map;

/** Long runs of drawn calls, each answered by the class and by the model. */
public final class ModelTest {
    private static final Map<String, Method> REAL = new HashMap<>();
    private static final Map<String, Method> MODEL = new HashMap<>();
    private static final String[] NAMES = {"x", "y", "z", "tag", "number", "cell"};
    private static final String[] NEARLY = {"fit", "nots", "1", "12345", "(", ")", ";", "-", "not", "or", "and", "<", "=",
        "+", "*", "x", "A", "\t", "fits", "adds", "", "", "", "00000", "\u00e9"};

    private long seed;
    private int scale;
    private final List<String> told = new ArrayList<>();

    private ModelTest(int run) {
        seed = run * 7919L + 17;
        int[] scales = {3, 20, 150, 999, 999};
        scale = scales[run % scales.length];
    }

    private int draw(int least, int greatest) {
        seed = seed * 6364136223846793005L + 1442695040888963407L;
        long span = (long) greatest - least + 1;
        return (int) (least + Long.remainderUnsigned(seed >>> 20, span));
    }

    private boolean rarely(int of) { return draw(1, of) == 1; }

    private int some(int... of) { return of[draw(0, of.length - 1)]; }

    private int coordinate() {
        if (rarely(25)) return some(-999, 999, 999, -999);
        if (rarely(250)) return some(-1000, 1000, Integer.MAX_VALUE, Integer.MIN_VALUE);
        return draw(-scale, scale);
    }

    private int odd(int least, int greatest) {
        if (rarely(30)) return some(least - 1, greatest + 1, Integer.MAX_VALUE, Integer.MIN_VALUE);
        return draw(least, greatest);
    }

    // ---- texts

    private String blank() { return rarely(3) ? some(0, 1) == 0 ? " " : "\n" : ""; }

    private String one(int deep) {
        int n = draw(0, 9);
        if (deep < 4 && n == 0) return "-" + blank() + one(deep + 1);
        if (deep < 4 && n == 1) return "(" + blank() + either(deep + 1) + blank() + ")";
        if (n < 5) return "" + (rarely(4) ? draw(0, 9999) : draw(0, 9)) + blank();
        return NAMES[draw(0, 5)] + " ";
    }

    private String product(int deep) { return one(deep) + (rarely(5) ? "*" + blank() + one(deep) : ""); }

    private String sum(int deep) {
        return product(deep) + (rarely(3) ? (rarely(2) ? "+" : "-") + blank() + product(deep) : "");
    }

    private String not(int deep) {
        if (deep < 4 && rarely(6)) return "not " + not(deep + 1);
        return sum(deep) + (rarely(2) ? (rarely(3) ? "=" : "<") + blank() + sum(deep) : "");
    }

    private String either(int deep) {
        String and = not(deep) + (rarely(4) ? blank() + "and " + not(deep) : "");
        return and + (rarely(4) ? blank() + "or " + and : "");
    }

    private String written() {
        String text = blank() + "fits " + either(0) + ";" + blank() + "adds " + (rarely(3) ? "0" : sum(0)) + ";" + blank();
        for (int n = rarely(2) ? draw(1, 2) : 0; n > 0 && !text.isEmpty(); n--) {
            int at = draw(0, text.length() - 1);
            int to = rarely(2) ? at : Math.min(text.length(), at + draw(0, 3));
            text = text.substring(0, at) + NEARLY[draw(0, NEARLY.length - 1)] + text.substring(to);
        }
        return rarely(20) ? text.substring(0, draw(0, text.length())) : text;
    }

    // ---- calls

    private int[] arguments(String name) {
        int one = odd(0, 11), sheet = odd(0, 3), item = odd(0, rarely(3) ? 40 : 11);
        switch (name) {
            case "cell": return new int[] {coordinate(), coordinate(), coordinate()};
            case "query": return new int[] {coordinate(), coordinate(), coordinate()};
            case "vector": return new int[] {coordinate(), coordinate(), coordinate(), odd(-99, 99)};
            case "move": return new int[] {one, coordinate(), coordinate(), coordinate()};
            case "drop": return new int[] {one, odd(0, 1)};
            case "told": return new int[] {one, odd(0, 12)};
            case "holds": return new int[] {odd(0, 3), odd(0, 11)};
            case "set": return setting();
            case "apart": return new int[] {one, odd(0, 11)};
            case "high": return new int[] {rarely(2) ? odd(0, 999999999) : draw(16777200, 99999999)};
            case "tidy": return new int[] {odd(0, 3)};
            case "feed": return new int[] {rarely(4) ? odd(0, 255) : some(40, 41, 59, 43, 45, 42, 60, 61, 32, 10, 120, 49)};
            case "force": return new int[] {odd(0, 5)};
            case "near": return new int[] {odd(1, 5), odd(0, 9)};
            case "within": return new int[] {radius(), odd(0, 1)};
            case "rank": return new int[] {one};
            case "friend": return new int[] {one, odd(0, 1)};
            case "pair": case "two": return new int[] {odd(0, 2)};
            case "spread": return new int[] {odd(0, 11)};
            case "cover": return new int[] {radius(), odd(0, 1)};
            case "rounds": return new int[] {odd(0, 1)};
            case "goes": return new int[] {odd(0, 2), odd(-99, 99)};
            case "costs": return new int[] {odd(0, 1)};
            case "lot": return new int[] {draw(-2147483648, 2147483647), odd(1, 20), odd(0, rarely(2) ? 12 : 4), odd(0, 1)};
            case "drawn": return new int[] {draw(-2147483648, 2147483647), odd(0, 2)};
            case "tells": return new int[] {sheet, odd(0, 4)};
            case "film": return new int[] {sheet, odd(0, 12)};
            case "count": return new int[] {odd(0, 7)};
            case "sheet": return new int[] {sheet, odd(-1, 2), rarely(3) ? odd(0, 40) : rarely(20) ? draw(-3, 45) : draw(3, 13)};
            case "put": return new int[] {sheet, item, rarely(3) ? draw(-2147483648, 2147483647) : draw(-scale, scale)};
            case "blank": case "item": return new int[] {sheet, item};
            case "copy": return new int[] {sheet, item, odd(0, 3), odd(0, 11), odd(0, 8)};
            case "rest": return new int[] {sheet, item, odd(0, 11)};
            case "shelve": return new int[] {sheet, odd(0, 2), odd(0, 5), rarely(3) ? odd(0, 12) : draw(0, 3)};
            case "ask": return new int[] {sheet, odd(0, 8)};
            case "code": return new int[] {one, sheet, odd(0, 9)};
            case "taken": return new int[] {odd(0, 5)};
            default: return new int[0];
        }
    }

    private int radius() {
        return rarely(10) ? odd(0, 999999999) : draw(0, rarely(2) ? 4 * scale : 2 * scale * scale);
    }

    private int[] setting() {
        int what = odd(0, 6);
        switch (what) {
            case 0: return new int[] {what, odd(1, 64)};
            case 1: return new int[] {what, odd(0, 99)};
            case 2: return new int[] {what, rarely(2) ? odd(0, 999999) : draw(0, 2000)};
            case 3: return new int[] {what, odd(0, 5)};
            default: return new int[] {what, odd(1, 9)};
        }
    }

    private static final String[] OFTEN = {"vector", "vector", "cell", "move", "drop", "drop", "set", "set", "query", "query",
        "near", "near", "near", "film", "tells", "tells", "sheet", "put", "put", "told", "holds", "force"};
    private static final String[] ALL = {"cell", "vector", "move", "drop", "told", "holds", "set", "query", "apart", "high",
        "tidy", "centre", "feed", "text", "force", "near", "within", "rank", "friend", "pair", "spread", "cover", "two",
        "rounds", "goes", "costs", "lot", "drawn", "tells", "film", "image", "back", "count", "sheet", "put", "blank",
        "item", "copy", "rest", "shelve", "ask", "code", "taken"};

    private boolean same(VectorShelf real, Model model, String name, int... arguments) throws Exception {
        Object[] boxed = new Object[arguments.length];
        StringBuilder call = new StringBuilder(name).append('(');
        for (int i = 0; i < boxed.length; i++) {
            boxed[i] = arguments[i];
            call.append(i == 0 ? "" : ", ").append(arguments[i]);
        }
        call.append(')');
        long due = ((Number) MODEL.get(name).invoke(model, boxed)).longValue();
        String got;
        try {
            long answer = ((Number) REAL.get(name).invoke(real, boxed)).longValue();
            if (answer == due) {
                told.add(call + " = " + answer);
                return true;
            }
            got = "" + answer;
        } catch (InvocationTargetException e) {
            got = e.getCause().toString();
        }
        for (String line : told) System.out.println("  " + line);
        System.out.println(call + " answered " + got + ", due is " + due);
        return false;
    }

    private boolean run(int run) throws Exception {
        VectorShelf real = new VectorShelf();
        Model model = new Model();
        int calls = 0;
        for (int n = draw(0, 4); n > 0; n--, calls++) {
            if (!same(real, model, "cell", arguments("cell"))) return false;
        }
        for (int n = draw(0, 12); n > 0; n--, calls++) {
            if (!same(real, model, "vector", arguments("vector"))) return false;
        }
        while (calls < 512) {
            if (rarely(20) && calls < 340 && model.texts.size() < 6) {
                if (rarely(2) && model.tape.length() > 0) { calls++; if (!same(real, model, "text")) return false; }
                String text = written();
                for (int i = 0; i < text.length(); i++, calls++) {
                    if (!same(real, model, "feed", text.charAt(i))) return false;
                }
                if (!same(real, model, "text")) return false;
                calls++;
                continue;
            }
            String name = rarely(2) ? OFTEN[draw(0, OFTEN.length - 1)] : ALL[draw(0, ALL.length - 1)];
            if (name.equals("text") && !rarely(10)) continue;
            if (!same(real, model, name, arguments(name))) return false;
            calls++;
        }
        return true;
    }

    public static void main(String[] args) throws Exception {
        for (Method m : VectorShelf.class.getDeclaredMethods()) REAL.put(m.getName(), m);
        for (Method m : Model.class.getDeclaredMethods()) {
            Method real = REAL.get(m.getName());
            if (real != null && m.getParameterCount() == real.getParameterCount()) MODEL.put(m.getName(), m);
        }
        int runs = args.length > 0 ? Integer.parseInt(args[0]) : 300;
        for (int run = 0; run < runs; run++) {
            if (!new ModelTest(run).run(run)) {
                System.out.println("run " + run + " is not as due");
                System.exit(1);
            }
        }
        System.out.println(runs + " runs of 512 calls are as due");
    }
}
