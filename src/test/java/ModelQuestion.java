import java.math.BigInteger;
import java.util.ArrayList;
import java.util.List;
import java.util.Map;
import java.util.TreeMap;
import java.util.function.Supplier;

/** Questions of the model: all tokens first, then a tree of suppliers, then the tables. */
final class ModelQuestion {
    static final class Fault extends RuntimeException {
        final int code;
        final int place;

        Fault(int code, int place) {
            this.code = code;
            this.place = place;
        }
    }

    private static final class Token {
        final String kind;
        final String text;
        final int place;

        Token(String kind, String text, int place) {
            this.kind = kind;
            this.text = text;
            this.place = place;
        }
    }

    private final Model model;
    private final long from;
    private final long width;
    private final int n;
    private final List<Token> tokens = new ArrayList<>();
    private int next;

    ModelQuestion(String text, Model model, long from, long width, int n) {
        this.model = model;
        this.from = from;
        this.width = width;
        this.n = n;
        cutInTokens(text);
    }

    private void cutInTokens(String text) {
        int p = 0;
        while (p < text.length()) {
            String rest = text.substring(p);
            if (rest.startsWith(" ")) {
                p++;
                continue;
            }
            Token t = tokenAt(rest, p);
            tokens.add(t);
            if (t.kind.equals("bad")) {
                return;
            }
            p += t.text.length();
        }
        tokens.add(new Token("end", "", text.length()));
    }

    private static Token tokenAt(String rest, int place) {
        String number = begin(rest, "[0-9]+");
        if (number != null) {
            boolean fits = new BigInteger(number).compareTo(BigInteger.valueOf(Long.MAX_VALUE)) <= 0;
            return new Token(fits ? "number" : "bad", number, place);
        }
        String name = begin(rest, "[A-Za-z_][A-Za-z_0-9]*");
        if (name != null) {
            return new Token("name", name, place);
        }
        String quoted = begin(rest, "\"[ !#-~]*\"");
        if (quoted != null) {
            return new Token("text", quoted, place);
        }
        for (String sign : new String[] {"!=", "^=", "!^", "+", "-", "*", "/", "%", "(", ")", "{", "}", ",", "="}) {
            if (rest.startsWith(sign)) {
                return new Token(sign, sign, place);
            }
        }
        return new Token("bad", "", place);
    }

    private static String begin(String rest, String pattern) {
        java.util.regex.Matcher m = java.util.regex.Pattern.compile(pattern).matcher(rest);
        return m.lookingAt() ? m.group() : null;
    }

    private Token peek() {
        Token t = tokens.get(next);
        if (t.kind.equals("bad")) {
            throw new Fault(1, t.place);
        }
        return t;
    }

    private Token take(String... kinds) {
        Token t = peek();
        for (String kind : kinds) {
            if (t.kind.equals(kind)) {
                next++;
                return t;
            }
        }
        throw new Fault(2, t.place);
    }

    private boolean sees(String... kinds) {
        for (String kind : kinds) {
            if (peek().kind.equals(kind)) {
                return true;
            }
        }
        return false;
    }

    ModelTable answer() {
        Supplier<ModelTable> tree = exp(0);
        take("end");
        return tree.get();
    }

    private Supplier<ModelTable> exp(int open) {
        Supplier<ModelTable> left = term(open);
        while (sees("+", "-")) {
            left = operation(left, take("+", "-"), term(open));
        }
        return left;
    }

    private Supplier<ModelTable> term(int open) {
        Supplier<ModelTable> left = factor(open);
        while (sees("*", "/", "%")) {
            left = operation(left, take("*", "/", "%"), factor(open));
        }
        return left;
    }

    private Supplier<ModelTable> factor(int open) {
        Token t = peek();
        if (sees("(", "-") && open == 8) {
            throw new Fault(3, t.place);
        }
        if (sees("(")) {
            take("(");
            Supplier<ModelTable> inner = exp(open + 1);
            take(")");
            return inner;
        }
        if (sees("-")) {
            take("-");
            Supplier<ModelTable> inner = factor(open + 1);
            return () -> turned(inner.get());
        }
        if (sees("number")) {
            long number = Long.parseLong(take("number").text);
            return () -> {
                ModelTable made = new ModelTable(new ArrayList<>());
                Long[] cells = new Long[n];
                java.util.Arrays.fill(cells, number);
                made.rows.put(new ArrayList<>(), cells);
                return made;
            };
        }
        take("name");
        if (!List.of("sum", "count", "least", "most", "first", "latest", "growth").contains(t.text)) {
            throw new Fault(2, t.place);
        }
        return func(t.text);
    }

    private Supplier<ModelTable> func(String func) {
        List<String> names = new ArrayList<>();
        if (sees("name") && peek().text.equals("by")) {
            take("name");
            take("(");
            do {
                if (!names.isEmpty()) {
                    take(",");
                }
                Token name = take("name");
                if (names.contains(name.text) || names.size() == 6) {
                    throw new Fault(4, name.place);
                }
                names.add(name.text);
            } while (sees(","));
            take(")");
        }
        take("(");
        take("{");
        List<String[]> matches = new ArrayList<>();
        while (!sees("}")) {
            if (!matches.isEmpty()) {
                take(",");
            }
            String name = take("name").text;
            String kind = take("=", "!=", "^=", "!^").kind;
            String quoted = take("text").text;
            matches.add(new String[] {name, kind, quoted.substring(1, quoted.length() - 1)});
        }
        take("}");
        take(")");
        return () -> made(func, names, matches);
    }

    private static boolean matches(Map<String, String> labels, List<String[]> matches) {
        for (String[] m : matches) {
            String value = labels.getOrDefault(m[0], "");
            boolean fits = m[1].equals("=") ? value.equals(m[2])
                    : m[1].equals("!=") ? !value.equals(m[2])
                    : m[1].equals("^=") ? value.startsWith(m[2]) : !value.startsWith(m[2]);
            if (!fits) {
                return false;
            }
        }
        return true;
    }

    private ModelTable made(String func, List<String> names, List<String[]> matches) {
        ModelTable made = new ModelTable(names);
        TreeMap<String, List<Integer>> groups = new TreeMap<>();
        Map<String, List<String>> textsOf = new TreeMap<>();
        for (int s = 0; s < model.mem.texts.size(); s++) {
            Map<String, String> labels = model.labelsOf(s);
            if (matches(labels, matches)) {
                List<String> texts = new ArrayList<>();
                for (String name : names) {
                    texts.add(labels.getOrDefault(name, ""));
                }
                groups.computeIfAbsent(texts.toString(), k -> new ArrayList<>()).add(s);
                textsOf.put(texts.toString(), texts);
            }
        }
        for (String key : groups.keySet()) {
            Long[] cells = new Long[n];
            for (int w = 0; w < n; w++) {
                cells[w] = cell(func, groups.get(key), from + w * width, from + (w + 1) * width);
            }
            made.addIfAny(textsOf.get(key), cells);
        }
        return made;
    }

    private Long cell(String func, List<Integer> group, long begin, long end) {
        Long sum = null;
        long bestTime = 0;
        for (int s : group) {
            Model.Pt before = null;
            for (Model.Pt p : model.seenOf(s)) {
                Model.Pt old = before;
                before = p;
                if (p.t < begin || p.t >= end || func.equals("growth") && old == null) {
                    continue;
                }
                boolean first = sum == null;
                long so = first ? 0 : sum;
                switch (func) {
                    case "sum": sum = so + p.v; break;
                    case "count": sum = so + 1; break;
                    case "least": sum = first || p.v < so ? p.v : so; break;
                    case "most": sum = first || p.v > so ? p.v : so; break;
                    case "growth": sum = so + (old.v > p.v ? p.v : p.v - old.v); break;
                    case "first":
                        sum = first || p.t < bestTime ? p.v : so;
                        bestTime = first ? p.t : Math.min(p.t, bestTime);
                        break;
                    default:
                        sum = first || p.t > bestTime ? p.v : so;
                        bestTime = first ? p.t : Math.max(p.t, bestTime);
                        break;
                }
            }
        }
        return sum;
    }

    private static ModelTable turned(ModelTable table) {
        ModelTable made = new ModelTable(table.names);
        for (Map.Entry<List<String>, Long[]> row : table.rows.entrySet()) {
            Long[] cells = row.getValue().clone();
            for (int w = 0; w < cells.length; w++) {
                cells[w] = cells[w] == null ? null : Long.valueOf(-cells[w]);
            }
            made.rows.put(row.getKey(), cells);
        }
        return made;
    }

    private Supplier<ModelTable> operation(Supplier<ModelTable> left, Token sign, Supplier<ModelTable> right) {
        return () -> {
            ModelTable a = left.get();
            ModelTable b = right.get();
            if (!a.names.equals(b.names) && !a.names.isEmpty() && !b.names.isEmpty()) {
                throw new Fault(5, sign.place);
            }
            ModelTable wide = a.names.isEmpty() ? b : a;
            ModelTable made = new ModelTable(wide.names);
            for (List<String> texts : wide.rows.keySet()) {
                Long[] x = a.rows.get(a.names.isEmpty() ? new ArrayList<String>() : texts);
                Long[] y = b.rows.get(b.names.isEmpty() ? new ArrayList<String>() : texts);
                if (x != null && y != null) {
                    Long[] cells = new Long[n];
                    for (int w = 0; w < n; w++) {
                        cells[w] = x[w] == null || y[w] == null ? null : joined(sign.kind, x[w], y[w]);
                    }
                    made.addIfAny(texts, cells);
                }
            }
            return made;
        };
    }

    private static Long joined(String sign, long x, long y) {
        switch (sign) {
            case "+": return x + y;
            case "-": return x - y;
            case "*": return x * y;
            case "/": return y == 0 ? null : Long.valueOf(x / y);
            default: return y == 0 ? null : Long.valueOf(x % y);
        }
    }
}
