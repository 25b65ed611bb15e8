import java.util.ArrayList;
import java.util.List;
import java.util.Random;

/** Makes texts from a seed: mostly sound ones, some with one thing changed. */
final class Maker {
    private static final String[] SPOILERS = {
        "a", "b", "f", "g", "M", "R", "x1", "0", "1", "2", "5", "8", "33", "0x1f", "(", ")", "[", "]",
        "{", "}", ",", ";", ":", "?", "=", "==", "<", "<<", "+", "-", "*", "~", "|", ".", "if", "else",
        "rep", "raise", "sx", "cat", "def", "ins", "reg", "mem", "word", "!", "abcdefghijklmnopq"
    };

    private final Random random;
    private final List<String> out = new ArrayList<>();
    private final List<String> registers = new ArrayList<>();
    private final List<Integer> registerWidths = new ArrayList<>();
    private final List<String> rows = new ArrayList<>();
    private final List<int[]> rowWidths = new ArrayList<>();
    private final List<String> helpers = new ArrayList<>();
    private final List<int[]> helperWidths = new ArrayList<>();
    private final List<String> locals = new ArrayList<>();
    private final List<Integer> localWidths = new ArrayList<>();
    private int callable;
    private int names;

    Maker(long seed) {
        random = new Random(seed);
    }

    private boolean chance(int percent) {
        return random.nextInt(100) < percent;
    }

    private int width() {
        int[] liked = {1, 3, 4, 8, 8, 8, 16, 32};
        return chance(85) ? liked[random.nextInt(liked.length)] : 1 + random.nextInt(32);
    }

    private void put(String... lexemes) {
        for (String lexeme : lexemes) {
            out.add(lexeme);
        }
    }

    private String fresh(String stem) {
        names++;
        return stem + names;
    }

    private String number(long value) {
        if (chance(20)) {
            return "0x" + Long.toHexString(value);
        }
        return chance(10) ? "00" + value : Long.toString(value);
    }

    /** The lexemes of a sound text. */
    List<String> lexemes() {
        int word = 1 + random.nextInt(chance(20) ? 64 : 20);
        put("word", number(word), ";");
        plan();
        for (int i = 0; i < registers.size(); i++) {
            put("reg", registers.get(i), number(registerWidths.get(i)), ";");
        }
        for (int i = 0; i < rows.size(); i++) {
            int[] w = rowWidths.get(i);
            boolean memory = w[2] == 1;
            put(memory ? "mem" : "reg", rows.get(i), "[", number(memory ? w[0] : 1L << w[0]), "]",
                number(w[1]), ";");
        }
        int rounds = random.nextInt(4);
        for (int i = 0; i < helpers.size(); i++) {
            helper(i);
        }
        callable = helpers.size();
        for (int i = 0; i < rounds; i++) {
            instruction(word);
        }
        return out;
    }

    private void plan() {
        for (int i = random.nextInt(4); i >= 0; i--) {
            registers.add(fresh("r"));
            registerWidths.add(width());
        }
        for (int i = random.nextInt(3); i > 0; i--) {
            boolean memory = chance(50);
            rows.add(fresh(memory ? "M" : "R"));
            rowWidths.add(new int[] {1 + random.nextInt(memory ? 20 : 6), width(), memory ? 1 : 0});
        }
        for (int i = random.nextInt(4); i > 0; i--) {
            int[] widths = new int[1 + random.nextInt(4)];
            for (int k = 0; k < widths.length; k++) {
                widths[k] = width();
            }
            helpers.add(fresh("f"));
            helperWidths.add(widths);
        }
    }

    private void helper(int i) {
        int[] widths = helperWidths.get(i);
        put("def", helpers.get(i), "(");
        for (int k = 1; k < widths.length; k++) {
            if (k > 1) {
                put(",");
            }
            String name = chance(15) && !locals.contains(registers.get(0)) ? registers.get(0) : fresh("p");
            locals.add(name);
            localWidths.add(widths[k]);
            put(name, number(widths[k]));
        }
        put(")", number(widths[0]), "=");
        // Only helpers before it are called, but now and then any, which makes rings.
        callable = chance(12) ? helpers.size() : i;
        expression(widths[0], 3);
        put(";");
        locals.clear();
        localWidths.clear();
    }

    private void instruction(int word) {
        put("ins", fresh("i"));
        int left = word;
        while (left > 0) {
            int w = 1 + random.nextInt(Math.min(left, 32));
            if (chance(50)) {
                StringBuilder digits = new StringBuilder();
                for (int i = 0; i < w; i++) {
                    digits.append(random.nextInt(2));
                }
                put(digits.toString());
            } else {
                String name = chance(10) && !locals.contains("r1") ? "r1" : fresh("q");
                locals.add(name);
                localWidths.add(w);
                put(name, ":", number(w));
            }
            left -= w;
        }
        body(2);
        locals.clear();
        localWidths.clear();
    }

    private void body(int depth) {
        put("{");
        for (int i = random.nextInt(4); i > 0; i--) {
            action(depth);
        }
        put("}");
    }

    private void action(int depth) {
        int dice = random.nextInt(depth > 0 ? 8 : 4);
        if (dice < 3) {
            assignment();
        } else if (dice == 3) {
            put("raise", number(random.nextInt(256)), ";");
        } else if (dice < 7) {
            put("if");
            expression(1, 2);
            body(depth - 1);
            if (chance(50)) {
                put("else");
                body(depth - 1);
            }
        } else {
            String name = fresh("n");
            put("rep", name, number(1 + random.nextInt(255)));
            locals.add(name);
            localWidths.add(8);
            body(depth - 1);
            locals.remove(locals.size() - 1);
            localWidths.remove(localWidths.size() - 1);
        }
    }

    private void assignment() {
        if (!rows.isEmpty() && chance(50)) {
            int i = random.nextInt(rows.size());
            put(rows.get(i), "[");
            expression(rowWidths.get(i)[0], 2);
            put("]", "=");
            expression(rowWidths.get(i)[1], 3);
        } else {
            int i = random.nextInt(registers.size());
            if (locals.contains(registers.get(i))) {
                put("raise", "0", ";");
                return;
            }
            put(registers.get(i), "=");
            expression(registerWidths.get(i), 3);
        }
        put(";");
    }

    /** Brackets round it now and then, needed or not; where they would be needed, mostly. */
    private void operand(int width, int depth) {
        if (chance(40)) {
            put("(");
            expression(width, depth);
            put(")");
        } else {
            leaf(width, depth);
        }
    }

    private void expression(int width, int depth) {
        int dice = random.nextInt(14);
        if (depth <= 0 || dice < 3) {
            leaf(width, depth);
        } else if (dice < 8) {
            String[] signs = {"+", "-", "*", "&", "|", "^"};
            operand(width, depth - 1);
            for (int i = random.nextInt(3); i >= 0; i--) {
                put(signs[random.nextInt(signs.length)]);
                operand(width, depth - 1);
            }
        } else if (dice == 8) {
            operand(width, depth - 1);
            put(chance(50) ? "<<" : ">>");
            operand(width(), depth - 1);
        } else if (dice == 9 && width == 1) {
            String[] signs = {"==", "!=", "<"};
            int inner = width();
            operand(inner, depth - 1);
            put(signs[random.nextInt(signs.length)]);
            operand(inner, depth - 1);
        } else if (dice == 10) {
            operand(1, depth - 1);
            put("?");
            expression(width, depth - 1);
            put(":");
            expression(width, depth - 1);
        } else if (dice == 11) {
            put("(");
            expression(width, depth - 1);
            put(")");
        } else {
            put(chance(50) ? "~" : "-");
            operand(width, depth - 1);
        }
    }

    private void leaf(int width, int depth) {
        int dice = random.nextInt(10);
        if (dice < 4 && name(width)) {
            return;
        }
        if (depth > 0 && dice == 4 && width < 32) {
            int wide = width + random.nextInt(33 - width);
            int low = random.nextInt(wide - width + 1);
            operand(wide, depth - 1);
            put(".", number(low + width - 1), ":", number(low));
        } else if (depth > 0 && dice == 5 && width > 1) {
            put(chance(50) ? "sx" : "zx", "(");
            expression(1 + random.nextInt(width), depth - 1);
            put(",", number(width), ")");
        } else if (depth > 0 && dice == 6 && width > 1) {
            int first = 1 + random.nextInt(width - 1);
            put("cat", "(");
            expression(first, depth - 1);
            put(",");
            expression(width - first, depth - 1);
            put(")");
        } else if (depth <= 0 || dice < 7 || !element(width, depth) && !call(width, depth)) {
            long value = random.nextLong() & (1L << width) - 1;
            put(number(value), ":", number(width));
        }
    }

    private boolean name(int width) {
        List<String> fitting = new ArrayList<>();
        for (int i = 0; i < locals.size(); i++) {
            if (localWidths.get(i) == width) {
                fitting.add(locals.get(i));
            }
        }
        for (int i = 0; i < registers.size(); i++) {
            if (registerWidths.get(i) == width && !locals.contains(registers.get(i))) {
                fitting.add(registers.get(i));
            }
        }
        if (fitting.isEmpty()) {
            return false;
        }
        put(fitting.get(random.nextInt(fitting.size())));
        return true;
    }

    private boolean element(int width, int depth) {
        for (int i = 0; i < rows.size(); i++) {
            if (rowWidths.get(i)[1] == width && chance(60)) {
                put(rows.get(i), "[");
                expression(rowWidths.get(i)[0], depth - 1);
                put("]");
                return true;
            }
        }
        return false;
    }

    private boolean call(int width, int depth) {
        for (int i = 0; i < callable; i++) {
            int[] widths = helperWidths.get(i);
            if (widths[0] == width && chance(60)) {
                put(helpers.get(i), "(");
                for (int k = 1; k < widths.length; k++) {
                    if (k > 1) {
                        put(",");
                    }
                    expression(widths[k], depth - 1);
                }
                put(")");
                return true;
            }
        }
        return false;
    }

    /** Changes some lexemes: takes one away, puts one in, or another one in its place. */
    void spoil(List<String> lexemes, int times) {
        for (int i = 0; i < times && !lexemes.isEmpty(); i++) {
            int at = random.nextInt(lexemes.size());
            for (int turn = 0; turn < 40 && "ws+".indexOf(use(lexemes.get(at))) >= 0 && chance(97); turn++) {
                at = random.nextInt(lexemes.size());
            }
            String other = chance(50) ? SPOILERS[random.nextInt(SPOILERS.length)]
                : lexemes.get(random.nextInt(lexemes.size()));
            int dice = random.nextInt(20);
            if (dice == 0) {
                lexemes.remove(at);
            } else if (dice == 1) {
                lexemes.add(at, other);
            } else {
                lexemes.set(at, sameType(lexemes, at, other));
            }
        }
    }

    /** Mostly a lexeme of the same type, so that the grammar holds and later faults are come to. */
    private String sameType(List<String> lexemes, int at, String other) {
        char type = use(lexemes.get(at));
        for (int turn = 0; turn < 40 && chance(99); turn++) {
            String candidate = lexemes.get(random.nextInt(lexemes.size()));
            if (use(candidate) == type && !candidate.equals(lexemes.get(at))) {
                return candidate;
            }
        }
        return other;
    }

    private static char use(String lexeme) {
        if (List.of("+", "-", "*", "&", "|", "^", "<<", ">>", "==", "!=", "<").contains(lexeme)) {
            return 'o';
        }
        boolean word = List.of("word", "reg", "mem", "def", "ins", "if", "else", "rep", "raise", "sx",
            "zx", "cat").contains(lexeme);
        return word ? 'w' : type(lexeme);
    }

    private static char type(String lexeme) {
        char c = lexeme.charAt(0);
        return Character.isLetter(c) ? 'n' : Character.isDigit(c) ? 'd' : '+';
    }

    /** Expressions and bodies in about as many others as there may be. */
    List<String> deepLexemes() {
        put("word", "8", ";", "reg", "a", "8", ";", "reg", "R", "[", "8", "]", "8", ";");
        put("def", "f", "(", "x", "8", ")", "8", "=", "x", ";");
        int bodies = 1 + random.nextInt(chance(50) ? 80 : 10);
        int levels = 77 + random.nextInt(6) - bodies;
        put("ins", "i", "00000000");
        for (int i = 0; i < bodies; i++) {
            put("{");
            if (i + 1 < bodies) {
                put("if", "a", "==", "0", ":", "8");
            }
        }
        if (chance(20)) {
            put("R", "[");
            deep(levels);
            put("]");
        } else {
            put("a");
        }
        put("=");
        deep(levels);
        put(";");
        for (int i = 0; i < bodies; i++) {
            put("}");
        }
        return out;
    }

    private void deep(int levels) {
        List<String> ends = new ArrayList<>();
        for (int i = 0; i < levels; i++) {
            String[][] forms = {
                {"(", ")"}, {"( a +", ")"}, {"~ (", ")"}, {"f (", ")"}, {"cat ( a . 3 : 0 , (", ") . 3 : 0 )"},
                {"sx (", ", 8 )"}, {"R [ (", ") . 2 : 0 ]"}, {"a . 0 : 0 ?", ": a"}, {"a == a ? a :", ""},
                {"a * a - (", ") . 7 : 0 + a"}
            };
            String[] form = forms[random.nextInt(forms.length)];
            put(form[0].split(" "));
            ends.add(form[1]);
        }
        put("a");
        for (int i = ends.size() - 1; i >= 0; i--) {
            if (!ends.get(i).isEmpty()) {
                put(ends.get(i).split(" "));
            }
        }
    }

    /** The lexemes as a text, with white between them where it must be, and now and then elsewhere. */
    String join(List<String> lexemes) {
        String[] white = {" ", "  ", "\n", "\t", "\r\n", " # a note; { \n", "#\n"};
        StringBuilder all = new StringBuilder();
        boolean tight = chance(50);
        char before = ' ';
        for (String lexeme : lexemes) {
            char type = type(lexeme);
            boolean apart = before != '+' && type != '+' || before == '+' && type == '+';
            if (apart && all.length() > 0 || !tight && chance(30)) {
                all.append(chance(80) ? " " : white[random.nextInt(white.length)]);
            }
            all.append(lexeme);
            before = type;
        }
        return all.toString();
    }
}
