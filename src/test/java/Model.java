import java.util.ArrayDeque;
import java.util.ArrayList;
import java.util.Arrays;
import java.util.HashMap;
import java.util.HashSet;
import java.util.LinkedHashMap;
import java.util.List;
import java.util.Map;
import java.util.Set;
import java.util.regex.Matcher;
import java.util.regex.Pattern;

/** A second, plain reading of the document: a tree by recursive descent, printed from the tree. */
final class Model {
    private static final Set<String> WORDS = new HashSet<>(Arrays.asList(
        "word", "reg", "mem", "def", "ins", "if", "else", "rep", "raise", "sx", "zx", "cat"));
    private static final Pattern LEXEME = Pattern.compile(
        "(?<white>[\\t\\n\\r ]+|#[^\\n]*)|(?<name>[A-Za-z_][A-Za-z_0-9]*)"
        + "|(?<number>0x[0-9a-f]+|[0-9]+)|(?<sign>==|!=|<<|>>|[;,.=(){}\\[\\]:?+\\-*&|^~<])",
        Pattern.DOTALL);
    private static final List<List<String>> OPERATORS = List.of(
        List.of("|"), List.of("^"), List.of("&"), List.of("<<", ">>"), List.of("+", "-"), List.of("*"));
    private static final List<String> KINDS = List.of("value", "name", "element", "call", "sx", "zx",
        "cat", "slice", "~", "neg", "*", "+", "-", "<<", ">>", "&", "^", "|", "==", "!=", "<", "?");

    static final class Lexeme {
        String text = "";
        int place;
        char type = 'e';
    }

    static final class Node {
        String kind;
        int place;
        int namePlace;
        String name;
        long number = -1;
        int told;
        int width;
        boolean wrong;
        List<Node> parts = new ArrayList<>();
        int index;
    }

    static final class Action {
        String kind;
        String name;
        int place;
        Node index;
        Node value;
        int number;
        List<Action> first = new ArrayList<>();
        List<Action> second;
    }

    static final class Statement {
        String kind;
        String name;
        int place;
        int amount;
        int width;
        Map<String, Integer> locals = new LinkedHashMap<>();
        List<Integer> parameters = new ArrayList<>();
        List<String> parts = new ArrayList<>();
        Node value;
        List<Action> body;
        List<Node> nodes = new ArrayList<>();
        int actions;
        StringBuilder mask = new StringBuilder();
    }

    private static final class Stop extends RuntimeException {
        private static final long serialVersionUID = 1L;
    }

    final String text;
    final int[] first = new int[11];
    final List<Lexeme> lexemes = new ArrayList<>();
    final List<Statement> statements = new ArrayList<>();
    final List<Node> nodes = new ArrayList<>();
    final List<Integer> ring = new ArrayList<>();
    private final Map<String, Statement> known = new HashMap<>();
    private int word;
    private int at;

    Model(String text) {
        this.text = text;
        Arrays.fill(first, -1);
        try {
            cut();
            readText();
        } catch (Stop stop) {
            return;
        }
        checkTwice();
        for (Statement s : statements) {
            resolve(s);
        }
        if (fault() == 0) {
            findRing();
        }
        if (fault() == 0) {
            for (Statement s : statements) {
                checkWidths(s);
            }
        }
        for (Statement s : statements) {
            if (s.kind.equals("ins") && s.mask.length() != word) {
                note(10, s.place);
            }
        }
    }

    int fault() {
        for (int number = 1; number <= 10; number++) {
            if (first[number] >= 0) {
                return number;
            }
        }
        return 0;
    }

    int place() {
        return first[fault()];
    }

    private void note(int number, int place) {
        if (first[number] < 0 || place < first[number]) {
            first[number] = place;
        }
    }

    private Stop stop(int number, int place) {
        note(number, place);
        return new Stop();
    }

    private void cut() {
        Matcher m = LEXEME.matcher(text);
        int from = 0;
        while (from < text.length()) {
            m.region(from, text.length());
            if (!m.lookingAt()) {
                throw stop(1, from);
            }
            String all = m.group();
            if (m.group("white") == null) {
                Lexeme l = new Lexeme();
                l.text = all;
                l.place = from;
                l.type = m.group("name") != null ? (WORDS.contains(all) ? 'w' : 'n')
                    : m.group("number") != null ? 'd' : 's';
                boolean hex = all.startsWith("0x");
                if (l.type == 'n' && all.length() > 16 || l.type == 'd' && all.length() > (hex ? 10 : 32)) {
                    throw stop(1, from);
                }
                lexemes.add(l);
            }
            from = m.end();
        }
    }

    private Lexeme look(int i) {
        if (i < lexemes.size()) {
            return lexemes.get(i);
        }
        Lexeme end = new Lexeme();
        end.place = text.length();
        return end;
    }

    private Lexeme look() {
        return look(at);
    }

    private boolean is(String sign) {
        return look().type != 'n' && look().text.equals(sign);
    }

    private boolean take(String sign) {
        if (is(sign)) {
            at++;
            return true;
        }
        return false;
    }

    private void must(String sign) {
        if (!take(sign)) {
            throw stop(2, look().place);
        }
    }

    private Lexeme must(char type) {
        if (look().type != type) {
            throw stop(2, look().place);
        }
        at++;
        return look(at - 1);
    }

    private static long valueOf(String digits) {
        java.math.BigInteger n = digits.startsWith("0x")
            ? new java.math.BigInteger(digits.substring(2), 16) : new java.math.BigInteger(digits);
        return n.bitLength() > 40 ? 1L << 40 : n.longValue();
    }

    private int number(int low, int high) {
        Lexeme l = must('d');
        long value = valueOf(l.text);
        if (value < low || value > high) {
            note(4, l.place);
        }
        return (int) Math.min(value, 1 << 20);
    }

    private void readText() {
        must("word");
        word = number(1, 64);
        must(";");
        while (look().type != 'e') {
            Statement s = new Statement();
            s.kind = look().text;
            if (look().type != 'w' || !List.of("reg", "mem", "def", "ins").contains(s.kind)) {
                throw stop(2, look().place);
            }
            at++;
            s.place = look().place;
            s.name = must('n').text;
            readStatement(s);
            statements.add(s);
            if (!s.kind.equals("ins")) {
                must(";");
            }
        }
    }

    private void readStatement(Statement s) {
        switch (s.kind) {
            case "reg" -> {
                if (take("[")) {
                    int place = look().place;
                    s.amount = number(2, 64);
                    if (!List.of(2, 4, 8, 16, 32, 64).contains(s.amount)) {
                        note(4, place);
                    }
                    must("]");
                }
                s.width = number(1, 32);
            }
            case "mem" -> {
                must("[");
                s.amount = number(1, 20);
                must("]");
                s.width = number(1, 32);
            }
            case "def" -> readHelper(s);
            default -> readInstruction(s);
        }
    }

    private void readHelper(Statement s) {
        must("(");
        if (!is(")")) {
            do {
                int place = look().place;
                String name = must('n').text;
                int width = number(1, 32);
                if (s.locals.put(name, width) != null) {
                    note(5, place);
                }
                s.parameters.add(width);
                s.parts.add(name + " " + width);
            } while (take(","));
        }
        must(")");
        s.amount = s.parameters.size();
        s.width = number(1, 32);
        must("=");
        s.value = new Node();
        s.value.kind = "def";
        s.value.place = look().place;
        s.value.parts.add(expression(0));
    }

    private void readInstruction(Statement s) {
        while (look().type == 'd' || look().type == 'n') {
            int place = look().place;
            if (look().type == 'd') {
                String digits = must('d').text;
                if (!digits.matches("[01]+")) {
                    note(4, place);
                }
                s.parts.add(digits);
                s.mask.append(digits);
            } else {
                String name = must('n').text;
                must(":");
                int width = number(1, 32);
                if (s.locals.put(name, width) != null) {
                    note(5, place);
                }
                s.parts.add(name + ":" + width);
                s.mask.append("x".repeat(Math.min(width, 100)));
            }
        }
        s.amount = s.parts.size();
        s.width = word;
        s.body = body(s, 0);
    }

    private List<Action> body(Statement s, int depth) {
        if (depth >= 80) {
            throw stop(3, look().place);
        }
        must("{");
        List<Action> all = new ArrayList<>();
        while (!take("}")) {
            s.actions++;
            all.add(action(s, depth));
        }
        return all;
    }

    private Action action(Statement s, int depth) {
        Action a = new Action();
        a.place = look().place;
        if (take("if")) {
            a.kind = "if";
            a.place = look().place;
            a.value = expression(depth);
            a.first = body(s, depth + 1);
            if (take("else")) {
                a.second = body(s, depth + 1);
            }
        } else if (take("rep")) {
            a.kind = "rep";
            a.place = look().place;
            a.name = must('n').text;
            a.number = number(1, 255);
            a.first = body(s, depth + 1);
        } else if (take("raise")) {
            a.kind = "raise";
            a.number = number(0, 255);
            must(";");
        } else {
            a.kind = "=";
            a.name = must('n').text;
            if (take("[")) {
                a.index = expression(depth);
                must("]");
            }
            must("=");
            a.value = expression(depth);
            must(";");
        }
        return a;
    }

    private Node make(String kind, int place, Node... parts) {
        Node n = new Node();
        n.kind = kind;
        n.place = place;
        n.parts.addAll(Arrays.asList(parts));
        return n;
    }

    private Node expression(int depth) {
        if (depth >= 80) {
            throw stop(3, look().place);
        }
        int place = look().place;
        Node n = compare(depth);
        if (take("?")) {
            Node then = expression(depth + 1);
            must(":");
            n = make("?", place, n, then, expression(depth + 1));
        }
        return n;
    }

    private Node compare(int depth) {
        int place = look().place;
        Node n = binary(0, depth);
        for (String sign : List.of("==", "!=", "<")) {
            if (take(sign)) {
                return make(sign, place, n, binary(0, depth));
            }
        }
        return n;
    }

    private Node binary(int level, int depth) {
        if (level == OPERATORS.size()) {
            return unary(depth);
        }
        int place = look().place;
        Node n = binary(level + 1, depth);
        while (OPERATORS.get(level).contains(look().text)) {
            String sign = look().text;
            at++;
            n = make(sign, place, n, binary(level + 1, depth));
        }
        return n;
    }

    private Node unary(int depth) {
        int place = look().place;
        if (take("~")) {
            return make("~", place, unary(depth));
        }
        if (take("-")) {
            return make("neg", place, unary(depth));
        }
        Node n = primary(depth);
        while (take(".")) {
            n = make("slice", place, n);
            int high = number(0, 31);
            must(":");
            int second = look().place;
            int low = number(0, 31);
            if (high < low) {
                note(4, second);
            }
            n.told = high;
            n.number = low;
        }
        return n;
    }

    private Node primary(int depth) {
        int place = look().place;
        if (take("(")) {
            Node n = expression(depth + 1);
            must(")");
            return n;
        }
        if (is("sx") || is("zx") || is("cat")) {
            Node n = make(look().text, place);
            at++;
            must("(");
            n.parts.add(expression(depth + 1));
            must(",");
            if (n.kind.equals("cat")) {
                do {
                    n.parts.add(expression(depth + 1));
                } while (take(","));
            } else {
                n.told = number(1, 32);
            }
            must(")");
            return n;
        }
        if (look().type == 'd') {
            Node n = make("value", place);
            n.number = valueOf(must('d').text);
            must(":");
            n.told = number(1, 32);
            if (n.told >= 1 && n.told <= 32 && n.number >= 1L << n.told) {
                note(4, place);
            }
            return n;
        }
        Node n = make("name", place);
        n.name = must('n').text;
        n.namePlace = place;
        if (take("[")) {
            n.kind = "element";
            n.parts.add(expression(depth + 1));
            must("]");
        } else if (take("(")) {
            n.kind = "call";
            if (!is(")")) {
                do {
                    n.parts.add(expression(depth + 1));
                } while (take(","));
            }
            must(")");
        }
        return n;
    }

    private void checkTwice() {
        for (Statement s : statements) {
            if (known.putIfAbsent(s.name, s) != null) {
                note(5, s.place);
            }
        }
    }

    private void resolve(Statement s) {
        if (s.value != null) {
            resolve(s, s.value.parts.get(0), s.locals);
        }
        if (s.body != null) {
            resolve(s, s.body, s.locals);
        }
    }

    private void resolve(Statement s, List<Action> body, Map<String, Integer> seen) {
        for (Action a : body) {
            if (a.index != null) {
                resolve(s, a.index, seen);
            }
            if (a.value != null) {
                resolve(s, a.value, seen);
            }
            if (a.kind.equals("=")) {
                meaning(a.name, a.place, a.index == null ? "=" : "element", 1, seen);
            }
            Map<String, Integer> inner = new HashMap<>(seen);
            if (a.kind.equals("rep") && inner.put(a.name, 8) != null) {
                note(5, a.place);
            }
            resolve(s, a.first, inner);
            if (a.second != null) {
                resolve(s, a.second, seen);
            }
        }
    }

    private void meaning(String name, int place, String use, int parts, Map<String, Integer> seen) {
        if (seen.containsKey(name)) {
            if (!use.equals("name")) {
                note(7, place);
            }
            return;
        }
        Statement s = known.get(name);
        if (s == null) {
            note(6, place);
            return;
        }
        boolean right = switch (use) {
            case "name", "=" -> s.kind.equals("reg") && s.amount == 0;
            case "element" -> s.kind.equals("mem") || s.kind.equals("reg") && s.amount > 0;
            default -> s.kind.equals("def") && s.amount == parts;
        };
        if (!right) {
            note(7, place);
        }
    }

    private void resolve(Statement s, Node n, Map<String, Integer> seen) {
        for (Node part : n.parts) {
            resolve(s, part, seen);
        }
        n.index = nodes.size();
        nodes.add(n);
        s.nodes.add(n);
        if (n.name != null) {
            meaning(n.name, n.namePlace, n.kind, n.parts.size(), seen);
            n.told = seen.getOrDefault(n.name, 0);
        }
    }

    private static void calls(Node n, List<String> all) {
        if (n.kind.equals("call")) {
            all.add(n.name);
        }
        for (Node part : n.parts) {
            calls(part, all);
        }
    }

    /** The fewest calls from a helper to another, -1 when there is no way. */
    private int distance(Map<String, List<String>> calls, String from, String to) {
        Map<String, Integer> far = new HashMap<>();
        ArrayDeque<String> queue = new ArrayDeque<>();
        far.put(from, 0);
        queue.add(from);
        while (!queue.isEmpty()) {
            String s = queue.remove();
            if (s.equals(to)) {
                return far.get(s);
            }
            for (String t : calls.get(s)) {
                if (far.putIfAbsent(t, far.get(s) + 1) == null) {
                    queue.add(t);
                }
            }
        }
        return -1;
    }

    private String nearest(Map<String, List<String>> calls, String from, String to) {
        String best = null;
        int fewest = Integer.MAX_VALUE;
        for (String t : calls.get(from)) {
            int d = distance(calls, t, to);
            if (d >= 0 && d < fewest) {
                fewest = d;
                best = t;
            }
        }
        return best;
    }

    private void findRing() {
        Map<String, List<String>> calls = new LinkedHashMap<>();
        for (Statement s : statements) {
            if (s.kind.equals("def")) {
                List<String> all = new ArrayList<>();
                calls(s.value.parts.get(0), all);
                calls.put(s.name, all);
            }
        }
        for (String told : calls.keySet()) {
            String next = nearest(calls, told, told);
            if (next == null) {
                continue;
            }
            note(8, known.get(told).place);
            ring.add(known.get(told).place);
            while (!next.equals(told)) {
                ring.add(known.get(next).place);
                next = nearest(calls, next, told);
            }
            return;
        }
    }

    private int indexBits(Statement s) {
        return s.kind.equals("mem") ? s.amount : (int) Math.round(Math.log(s.amount) / Math.log(2));
    }

    private void checkWidths(Statement s) {
        for (Node n : s.nodes) {
            n.wrong = n.parts.stream().anyMatch(part -> part.wrong);
            if (!n.wrong) {
                n.width = widthOf(n);
                n.wrong = n.width <= 0;
                if (n.wrong) {
                    note(9, n.place);
                }
            }
        }
        if (s.value != null) {
            Node n = s.value.parts.get(0);
            if (!n.wrong && n.width != s.width) {
                note(9, s.value.place);
            }
        }
        if (s.body != null) {
            checkWidths(s.body);
        }
    }

    private void checkWidths(List<Action> body) {
        for (Action a : body) {
            if (a.kind.equals("if") && !a.value.wrong && a.value.width != 1) {
                note(9, a.place);
            }
            if (a.kind.equals("=")) {
                Statement s = known.get(a.name);
                boolean right = true;
                if (a.index != null) {
                    right = !a.index.wrong && a.index.width == indexBits(s);
                    if (!a.index.wrong && !right) {
                        note(9, a.place);
                    }
                }
                if (right && !a.value.wrong && a.value.width != s.width) {
                    note(9, a.place);
                }
            }
            checkWidths(a.first);
            if (a.second != null) {
                checkWidths(a.second);
            }
        }
    }

    private int widthOf(Node n) {
        int[] w = n.parts.stream().mapToInt(part -> part.width).toArray();
        Statement s = n.name == null ? null : known.get(n.name);
        switch (n.kind) {
            case "value":
                return n.told;
            case "name":
                return n.told > 0 ? n.told : s.width;
            case "element":
                return w[0] == indexBits(s) ? s.width : 0;
            case "call":
                for (int i = 0; i < w.length; i++) {
                    if (w[i] != s.parameters.get(i)) {
                        return 0;
                    }
                }
                return s.width;
            case "sx", "zx":
                return n.told >= w[0] ? n.told : 0;
            case "cat":
                int sum = Arrays.stream(w).sum();
                return sum <= 32 ? sum : 0;
            case "slice":
                return n.told < w[0] ? n.told - (int) n.number + 1 : 0;
            case "~", "neg", "<<", ">>":
                return w[0];
            case "?":
                return w[0] == 1 && w[1] == w[2] ? w[1] : 0;
            case "==", "!=", "<":
                return w[0] == w[1] ? 1 : 0;
            default:
                return w[0] == w[1] ? w[0] : 0;
        }
    }

    static int kindNumber(Node n) {
        return KINDS.indexOf(n.kind);
    }

    String printed() {
        StringBuilder all = new StringBuilder("word " + word + ";\n");
        for (Statement s : statements) {
            all.append(s.kind).append(' ').append(s.name);
            switch (s.kind) {
                case "reg", "mem" ->
                    all.append(s.amount == 0 ? "" : "[" + s.amount + "]").append(" " + s.width + ";");
                case "def" -> all.append("(" + String.join(", ", s.parts) + ") " + s.width + " = "
                    + show(s.value.parts.get(0), 0) + ";");
                default -> {
                    for (String part : s.parts) {
                        all.append(' ').append(part);
                    }
                    all.append(' ').append(show(s.body));
                }
            }
            all.append('\n');
        }
        return all.toString();
    }

    private String show(List<Action> body) {
        StringBuilder all = new StringBuilder("{ ");
        for (Action a : body) {
            all.append(show(a)).append(' ');
        }
        return all.append('}').toString();
    }

    private String show(Action a) {
        switch (a.kind) {
            case "if":
                String condition = show(a.value, 0);
                String gap = condition.matches("(?s)[A-Za-z_0-9].*") ? " " : "";
                return "if" + gap + condition + " " + show(a.first)
                    + (a.second == null ? "" : " else " + show(a.second));
            case "rep":
                return "rep " + a.name + " " + a.number + " " + show(a.first);
            case "raise":
                return "raise " + a.number + ";";
            default:
                return a.name + (a.index == null ? "" : "[" + show(a.index, 0) + "]") + " = "
                    + show(a.value, 0) + ";";
        }
    }

    private static int level(Node n) {
        switch (n.kind) {
            case "?":
                return 0;
            case "==", "!=", "<":
                return 1;
            case "~", "neg":
                return 8;
            case "slice":
                return 9;
            default:
                for (int i = 0; i < OPERATORS.size(); i++) {
                    if (OPERATORS.get(i).contains(n.kind)) {
                        return 2 + i;
                    }
                }
                return 10;
        }
    }

    private String show(Node n, int due) {
        int level = level(n);
        return level < due ? "(" + shown(n) + ")" : shown(n);
    }

    private String list(Node n) {
        List<String> inner = new ArrayList<>();
        for (Node part : n.parts) {
            inner.add(show(part, 0));
        }
        return String.join(", ", inner);
    }

    private String shown(Node n) {
        int level = level(n);
        switch (n.kind) {
            case "value":
                return n.number + ":" + n.told;
            case "name":
                return n.name;
            case "element":
                return n.name + "[" + list(n) + "]";
            case "call":
                return n.name + "(" + list(n) + ")";
            case "sx", "zx":
                return n.kind + "(" + list(n) + ", " + n.told + ")";
            case "cat":
                return "cat(" + list(n) + ")";
            case "slice":
                return show(n.parts.get(0), 9) + "." + n.told + ":" + n.number;
            case "~":
                return "~" + show(n.parts.get(0), 8);
            case "neg":
                return "-" + show(n.parts.get(0), 8);
            case "?":
                return show(n.parts.get(0), 1) + " ? " + show(n.parts.get(1), 0) + " : "
                    + show(n.parts.get(2), 0);
            default:
                return show(n.parts.get(0), level == 1 ? 2 : level) + " " + n.kind + " "
                    + show(n.parts.get(1), level + 1);
        }
    }
}
