import java.util.ArrayList;
import java.util.HashMap;
import java.util.List;
import java.util.Map;
import java.util.Set;
import java.util.TreeSet;

/** A second reading of a text, by trees, against which the house's own one is held. */
final class ModelText {
    static final Set<String> WORDS = Set.of("add", "always", "and", "assert", "back", "call", "cas", "cell", "else",
            "end", "fence", "finally", "give", "idle", "if", "join", "let", "lock", "mod", "not", "or", "pause", "self",
            "start", "sure", "swap", "take", "thread", "wait", "wake", "wakeall", "while");
    static final String[] SIGNS = {"==", "!=", "<=", ">=", "=", "<", ">", "+", "-", "*", "/", "(", ")", "{", "}", "[",
            "]", ";", ","};
    static final String[][] OPERATORS = {{"or"}, {"and"}, {"==", "!=", "<", "<=", ">", ">="}, {"+", "-"},
            {"*", "/", "mod"}};

    static final class Token {
        String text = "";
        char sort;
        int place;
        int number;
    }

    static final class E {
        String op;
        E left;
        E right;
        int value;
        Token name;
        Token index;
    }

    static final class S {
        String kind;
        int place;
        int line;
        Token name;
        Token whole;
        /** Of let and = : "sum", "row", "swap", "add", "cas". */
        String source;
        Token sourceToken;
        Token cell;
        E index;
        E first;
        E second;
        List<S> block;
        List<S> other;
    }

    static final class Fault extends RuntimeException {
        private static final long serialVersionUID = 1L;
        final int number;
        final int place;

        Fault(int number, int place) {
            this.number = number;
            this.place = place;
        }
    }

    static final class Cell {
        Token name;
        boolean sure;
        boolean row;
        int size = 1;
        int first;
        int start;
    }

    final String text;
    final List<Token> tokens = new ArrayList<>();
    final List<Cell> cells = new ArrayList<>();
    final List<Token> locks = new ArrayList<>();
    final List<Token> threads = new ArrayList<>();
    final List<Boolean> idle = new ArrayList<>();
    final List<List<S>> bodies = new ArrayList<>();
    final List<E> always = new ArrayList<>();
    final List<E> finals = new ArrayList<>();
    int cellCount;
    int fault;
    int faultPlace = -1;
    private int at;
    private int lets;
    private final TreeSet<Long> judged = new TreeSet<>();

    ModelText(String text) {
        this.text = text;
        try {
            cutAll();
            while (peek().sort != '$') {
                definition();
            }
            judge();
            if (!judged.isEmpty()) {
                fault = (int) (judged.first() % 10);
                faultPlace = (int) (judged.first() / 10);
            }
        } catch (Fault f) {
            fault = f.number;
            faultPlace = f.place;
        }
    }

    int lineOf(int place) {
        int line = 1;
        for (int i = 0; i < place; i++) {
            if (text.charAt(i) == '\n') {
                line++;
            }
        }
        return line;
    }

    private void cutAll() {
        int i = 0;
        while (true) {
            while (i < text.length()) {
                if (" \t\r\n".indexOf(text.charAt(i)) >= 0) {
                    i++;
                } else if (text.startsWith("//", i)) {
                    int end = text.indexOf('\n', i);
                    i = end < 0 ? text.length() : end;
                } else {
                    break;
                }
            }
            Token t = new Token();
            t.place = i;
            t.number = tokens.size() + 1;
            tokens.add(t);
            if (i == text.length()) {
                t.sort = '$';
                return;
            }
            int j = i;
            while (j < text.length() && String.valueOf(text.charAt(j)).matches("[a-zA-Z0-9]")) {
                j++;
            }
            String run = text.substring(i, j);
            if (run.isEmpty()) {
                t.sort = '?';
                for (String sign : SIGNS) {
                    if (text.startsWith(sign, i)) {
                        t.sort = 's';
                        t.text = sign;
                        break;
                    }
                }
            } else {
                t.text = run;
                t.sort = WORDS.contains(run) ? 'w' : run.matches("[a-zA-Z][a-zA-Z0-9]{0,11}") ? 'n'
                        : run.matches("[0-9]{1,9}") ? '9' : '?';
            }
            if (t.sort == '?') {
                return;
            }
            i += t.text.length();
        }
    }

    private Token peek() {
        return tokens.get(at);
    }

    private Token peek(int k) {
        return at + k < tokens.size() ? tokens.get(at + k) : new Token();
    }

    private boolean is(String s) {
        Token t = peek();
        return (t.sort == 'w' || t.sort == 's') && t.text.equals(s);
    }

    private Fault form() {
        return new Fault(peek().sort == '?' ? 1 : 2, peek().place);
    }

    private Token next() {
        Token t = peek();
        if (t.number > 700) {
            throw new Fault(3, t.place);
        }
        at++;
        return t;
    }

    private Token next(String s) {
        if (!is(s)) {
            throw form();
        }
        return next();
    }

    private Token name() {
        if (peek().sort != 'n') {
            throw form();
        }
        return next();
    }

    private Token whole() {
        if (peek().sort != '9') {
            throw form();
        }
        return next();
    }

    private void most(int has, int most) {
        if (has >= most) {
            throw new Fault(3, peek().place);
        }
    }

    private void definition() {
        if (is("sure") || is("cell")) {
            cell();
        } else if (is("lock")) {
            most(locks.size(), 6);
            next();
            locks.add(name());
            next(";");
        } else if (is("idle") || is("thread")) {
            most(threads.size(), 6);
            idle.add(is("idle"));
            if (is("idle")) {
                next();
            }
            next("thread");
            threads.add(name());
            lets = 0;
            bodies.add(block(1));
        } else if (is("always") || is("finally")) {
            List<E> list = is("always") ? always : finals;
            most(list.size(), 4);
            next();
            list.add(e(1, false));
            next(";");
        } else {
            throw form();
        }
    }

    private void cell() {
        Cell c = new Cell();
        c.sure = is("sure");
        if (c.sure) {
            next();
        }
        next("cell");
        if (peek().sort == 'n') {
            c.row = peek(1).sort == 's' && peek(1).text.equals("[");
            Token w = peek(2);
            if (c.row && w.sort == '9' && w.number <= 701) {
                int size = Integer.parseInt(w.text);
                c.size = size >= 1 && size <= 8 ? size : 1;
            }
            if (cellCount + c.size > 24) {
                throw new Fault(3, peek().place);
            }
        }
        c.name = name();
        c.first = cellCount;
        cellCount += c.size;
        cells.add(c);
        if (is("[")) {
            next();
            Token w = whole();
            int size = Integer.parseInt(w.text);
            if (size < 1 || size > 8) {
                judged.add(w.place * 10L + 6);
            }
            next("]");
        }
        if (is("=")) {
            next();
            int sign = 1;
            if (is("-")) {
                next();
                sign = -1;
            }
            c.start = sign * Integer.parseInt(whole().text);
        }
        next(";");
    }

    private List<S> block(int depth) {
        next("{");
        List<S> list = new ArrayList<>();
        while (!is("}")) {
            list.add(s(depth));
        }
        next("}");
        return list;
    }

    private S s(int depth) {
        Set<String> begins = Set.of("let", "if", "while", "lock", "take", "give", "wait", "wake", "wakeall", "start",
                "join", "fence", "pause", "assert", "call", "back", "end");
        if (peek().sort != 'n' && !(peek().sort == 'w' && begins.contains(peek().text))) {
            throw form();
        }
        if (depth > 16) {
            throw new Fault(3, peek().place);
        }
        S s = new S();
        s.place = peek().place;
        s.line = lineOf(s.place);
        s.kind = peek().sort == 'n' ? "set" : peek().text;
        if (!s.kind.equals("set")) {
            next();
        }
        switch (s.kind) {
            case "let":
                if (peek().sort == 'n') {
                    most(lets, 8);
                }
                lets++;
                s.name = name();
                next("=");
                source(s, depth);
                next(";");
                break;
            case "set":
                s.name = name();
                if (is("[")) {
                    s.kind = "rowset";
                    next();
                    s.index = e(depth + 1, true);
                    next("]");
                    next("=");
                    s.first = e(depth + 1, true);
                } else {
                    next("=");
                    source(s, depth);
                }
                next(";");
                break;
            case "if":
                s.first = e(depth + 1, true);
                s.block = block(depth + 1);
                if (is("else")) {
                    next();
                    s.other = is("if") ? List.of(s(depth + 1)) : block(depth + 1);
                }
                break;
            case "while":
                s.first = e(depth + 1, true);
                s.block = block(depth + 1);
                break;
            case "lock":
                s.name = name();
                s.block = block(depth + 1);
                break;
            case "take":
            case "give":
            case "wait":
            case "wake":
            case "wakeall":
            case "start":
            case "join":
                s.name = name();
                next(";");
                break;
            case "assert":
            case "back":
                s.first = e(depth + 1, true);
                next(";");
                break;
            case "call":
                s.whole = whole();
                next(",");
                s.first = e(depth + 1, true);
                next(";");
                break;
            default:
                next(";");
        }
        return s;
    }

    private void source(S s, int depth) {
        s.sourceToken = peek();
        if (is("swap") || is("add") || is("cas")) {
            s.source = next().text;
            s.cell = name();
            if (is("[")) {
                next();
                s.index = e(depth + 1, true);
                next("]");
            }
            next(",");
            s.first = e(depth + 1, true);
            if (s.source.equals("cas")) {
                next(",");
                s.second = e(depth + 1, true);
            }
        } else if (peek().sort == 'n' && peek(1).sort == 's' && peek(1).text.equals("[")) {
            s.source = "row";
            s.cell = name();
            next("[");
            s.index = e(depth + 1, true);
            next("]");
        } else {
            s.source = "sum";
            s.first = e(depth + 1, true);
        }
    }

    private void mayNest(int depth, boolean inThread) {
        boolean begins = peek().sort == 'n' || peek().sort == '9' || is("(") || is("not") || is("-")
                || inThread && is("self");
        if (!begins) {
            throw form();
        }
        if (depth > 16) {
            throw new Fault(3, peek().place);
        }
    }

    private E e(int depth, boolean inThread) {
        mayNest(depth, inThread);
        return level(0, depth, inThread);
    }

    private E level(int level, int depth, boolean inThread) {
        if (level == OPERATORS.length) {
            return prefixed(depth, inThread);
        }
        E left = level(level + 1, depth, inThread);
        while (true) {
            String op = null;
            for (String o : OPERATORS[level]) {
                op = is(o) ? o : op;
            }
            if (op == null) {
                return left;
            }
            next();
            mayNest(depth + 1, inThread);
            E e = new E();
            e.op = op;
            e.left = left;
            e.right = level(level + 1, depth + 1, inThread);
            left = e;
        }
    }

    private E prefixed(int depth, boolean inThread) {
        E e = new E();
        if (is("not") || is("-")) {
            mayNest(depth + 1, inThread);
            e.op = next().text.equals("not") ? "not" : "neg";
            e.left = prefixed(depth + 1, inThread);
        } else if (is("(")) {
            next();
            E inner = e(depth + 1, inThread);
            next(")");
            e.op = "()";
            e.left = inner;
        } else if (peek().sort == '9') {
            e.op = "whole";
            e.value = Integer.parseInt(next().text);
        } else if (inThread && is("self")) {
            next();
            e.op = "self";
        } else {
            e.op = "name";
            e.name = name();
            if (!inThread && is("[")) {
                next();
                e.index = whole();
                next("]");
            }
        }
        return e;
    }

    // ---- faults 4 to 7, collected in any order; the least place and number counts

    private void bad(int number, Token t) {
        judged.add(t.place * 10L + number);
    }

    Cell cellOf(Token t, boolean row) {
        for (Cell c : cells) {
            if (c.row == row && c.name.text.equals(t.text)) {
                return c;
            }
        }
        return null;
    }

    int indexOf(List<Token> list, Token t) {
        for (int i = 0; i < list.size(); i++) {
            if (list.get(i).text.equals(t.text)) {
                return i;
            }
        }
        return -1;
    }

    private void judge() {
        List<Token> told = new ArrayList<>(locks);
        told.addAll(threads);
        for (Cell c : cells) {
            told.add(c.name);
        }
        told.sort((a, b) -> a.place - b.place);
        Map<String, Token> seen = new HashMap<>();
        for (Token t : told) {
            if (seen.putIfAbsent(t.text, t) != null) {
                bad(4, t);
            }
        }
        for (E e : always) {
            judgeClaim(e);
        }
        for (E e : finals) {
            judgeClaim(e);
        }
        for (List<S> body : bodies) {
            judgeBlock(body, new ArrayList<>());
        }
    }

    private void judgeClaim(E e) {
        if (e == null) {
            return;
        }
        judgeClaim(e.left);
        judgeClaim(e.right);
        if (e.name != null) {
            Cell c = cellOf(e.name, e.index != null);
            if (c == null) {
                bad(5, e.name);
            } else if (e.index != null && Integer.parseInt(e.index.text) >= c.size) {
                bad(6, e.index);
            }
        }
    }

    private void judgeBlock(List<S> block, List<String> outer) {
        List<String> known = new ArrayList<>(outer);
        List<String> here = new ArrayList<>();
        for (S s : block) {
            if (s.kind.equals("let")) {
                if (here.contains(s.name.text)) {
                    bad(4, s.name);
                }
                judgeSource(s, known, false);
                known.add(s.name.text);
                here.add(s.name.text);
                continue;
            }
            judgeStatement(s, known);
        }
    }

    private void judgeStatement(S s, List<String> known) {
        switch (s.kind) {
            case "set":
                boolean toCell = !known.contains(s.name.text);
                if (toCell && cellOf(s.name, false) == null) {
                    bad(5, s.name);
                }
                judgeSource(s, known, toCell);
                break;
            case "rowset":
                if (cellOf(s.name, true) == null) {
                    bad(5, s.name);
                }
                judgeE(s.index, known);
                judgeE(s.first, known);
                break;
            case "if":
            case "while":
                judgeE(s.first, known);
                judgeBlock(s.block, known);
                if (s.other != null) {
                    judgeBlock(s.other, known);
                }
                break;
            case "lock":
                if (indexOf(locks, s.name) < 0) {
                    bad(5, s.name);
                }
                judgeBlock(s.block, known);
                break;
            case "start":
            case "join":
                if (indexOf(threads, s.name) < 0) {
                    bad(5, s.name);
                }
                break;
            default:
                if (s.name != null && indexOf(locks, s.name) < 0) {
                    bad(5, s.name);
                }
                if (s.whole != null && Integer.parseInt(s.whole.text) > 3) {
                    bad(6, s.whole);
                }
                judgeE(s.first, known);
        }
    }

    private void judgeSource(S s, List<String> known, boolean toCell) {
        if (s.source.equals("sum")) {
            if (s.first.op.equals("name") && !known.contains(s.first.name.text)) {
                bad(cellOf(s.first.name, false) == null ? 5 : toCell ? 7 : 0, s.first.name);
                judged.remove(s.first.name.place * 10L);
                return;
            }
            judgeE(s.first, known);
            return;
        }
        if (toCell) {
            bad(7, s.sourceToken);
        }
        if (cellOf(s.cell, s.index != null) == null) {
            bad(5, s.cell);
        }
        judgeE(s.index, known);
        judgeE(s.first, known);
        judgeE(s.second, known);
    }

    private void judgeE(E e, List<String> known) {
        if (e == null) {
            return;
        }
        judgeE(e.left, known);
        judgeE(e.right, known);
        if (e.name != null && !known.contains(e.name.text)) {
            bad(5, e.name);
        }
    }
}
