import java.util.ArrayList;
import java.util.List;
import java.util.Random;

/** Makes texts by a seed: most of them without a fault, and others that are spoiled. */
final class Maker {
    private static final String[] NAMES = {"a", "b", "c", "d", "e", "f", "g", "h"};

    private final Random random;
    private final StringBuilder text = new StringBuilder();
    private final List<String> plain = new ArrayList<>();
    private final List<String> rows = new ArrayList<>();
    private final List<String> locks = new ArrayList<>();
    private final List<String> threads = new ArrayList<>();
    private final List<String> known = new ArrayList<>();
    private final List<Integer> rowSizes = new ArrayList<>();
    private final List<String> idle = new ArrayList<>();
    private int lets;
    private boolean calls;
    private boolean waits;
    private boolean late;

    private Maker(long seed) {
        random = new Random(seed);
    }

    static String text(long seed) {
        return new Maker(seed).program();
    }

    private int any(int n) {
        return random.nextInt(n);
    }

    private String any(List<String> list) {
        return list.get(any(list.size()));
    }

    private String program() {
        int cells = 1 + any(3);
        for (int i = 0; i < cells; i++) {
            String name = "c" + i;
            boolean row = any(4) == 0;
            int size = 1 + any(3);
            (row ? rows : plain).add(name);
            if (row) {
                rowSizes.add(size);
            }
            text.append(any(3) == 0 ? "sure " : "").append("cell ").append(name).append(row ? "[" + size + "]" : "")
                    .append(any(3) == 0 ? " = " + (any(2) == 0 ? "-" : "") + any(4) : "").append(";\n");
        }
        calls = any(3) == 0;
        waits = any(3) == 0;
        late = any(4) == 0;
        int manyLocks = waits ? 1 + any(2) : any(3);
        for (int i = 0; i < manyLocks; i++) {
            locks.add("l" + i);
            text.append("lock l").append(i).append(";");
        }
        int manyThreads = 1 + any(4);
        for (int i = 0; i < manyThreads; i++) {
            threads.add("t" + i);
            if (any(5) == 0) {
                idle.add("t" + i);
            }
        }
        for (int i = 0; i < manyThreads; i++) {
            text.append(idle.contains("t" + i) ? "idle " : "").append("thread t").append(i).append(" {");
            known.clear();
            lets = 0;
            block(0, 1 + any(calls ? 6 : 4));
            text.append("}\n");
        }
        int claims = any(4);
        for (int i = 0; i < claims; i++) {
            text.append(any(2) == 0 ? "always " : "finally ").append(claim(2)).append(";\n");
        }
        return text.toString();
    }

    private String claim(int depth) {
        if (depth == 0 || any(3) == 0) {
            if (!rows.isEmpty() && any(2) == 0) {
                int r = any(rows.size());
                return rows.get(r) + "[" + any(rowSizes.get(r)) + "]";
            }
            return plain.isEmpty() || any(3) == 0 ? "" + any(4) : any(plain);
        }
        return "(" + claim(depth - 1) + operator() + claim(depth - 1) + ")";
    }

    private String operator() {
        String[] all = {" + ", " - ", " * ", " / ", " mod ", " == ", " != ", " < ", " <= ", " > ", " >= ", " and ", " or "};
        return all[any(all.length)];
    }

    private String e(int depth) {
        int k = any(depth == 0 ? 3 : 7);
        switch (k) {
            case 0:
                return "" + any(4);
            case 1:
                return "self";
            case 2:
                return known.isEmpty() ? "" + any(3) : any(known);
            case 3:
                return (any(2) == 0 ? "not " : "-") + e(depth - 1);
            case 4:
                return "(" + e(depth - 1) + ")";
            default:
                return e(depth - 1) + operator() + e(depth - 1);
        }
    }

    private String place() {
        boolean row = plain.isEmpty() || !rows.isEmpty() && any(2) == 0;
        return row ? any(rows) + "[" + (any(4) == 0 ? e(1) : "" + any(2)) + "]" : any(plain);
    }

    private String source() {
        switch (any(6)) {
            case 0:
                return "swap " + place() + ", " + e(1);
            case 1:
                return "add " + place() + ", " + e(1);
            case 2:
                return "cas " + place() + ", " + e(1) + ", " + e(1);
            case 3:
                return e(2);
            default:
                return place();
        }
    }

    private void block(int depth, int many) {
        int before = known.size();
        for (int i = 0; i < many; i++) {
            statement(depth);
        }
        while (known.size() > before) {
            known.remove(known.size() - 1);
        }
    }

    private void inBlock(int depth) {
        text.append("{ ");
        block(depth + 1, any(3));
        text.append("} ");
    }

    /** Statements that go well together more often than by chance. */
    private boolean together(int depth) {
        if (waits && any(2) == 0) {
            String lock = any(locks);
            String[] inner = {"wait ", "wait ", "wake ", "wakeall ", "wake "};
            boolean twice = any(3) == 0;
            text.append("lock ").append(lock).append(" { ").append(twice ? "lock " + lock + " { " : "");
            text.append(inner[any(inner.length)]).append(lock).append("; ");
            if (depth < 2) {
                block(depth + 1, any(2));
            }
            text.append(twice ? "} } " : "} ");
            return true;
        }
        if (calls && any(3) > 0) {
            int many = 1 + any(2);
            for (int i = 0; i < many; i++) {
                int kind = any(3) == 0 ? 2 + any(2) : any(2);
                String answer = kind == 0 ? any(6) == 0 ? "1" : "0" : any(5) == 0 ? e(1) : "" + (any(4) - (any(4) == 0 ? 1 : 0));
                text.append("call ").append(kind).append(", ").append(1 + any(3)).append(any(3) == 0 ? "; pause" : "").append("; back ")
                        .append(answer).append("; ");
            }
            return true;
        }
        if (late && !plain.isEmpty() && any(2) == 0) {
            int many = 1 + any(any(6) == 0 ? 9 : 2);
            for (int i = 0; i < many; i++) {
                String cell = any(plain);
                if (!known.contains(cell)) {
                    text.append(cell).append(" = ").append(any(3)).append("; ");
                }
            }
            return true;
        }
        return false;
    }

    private void statement(int depth) {
        if (together(depth)) {
            return;
        }
        int k = any(calls ? 40 : 30);
        if (k < 6) {
            if (lets < 8) {
                lets++;
                String name = any(8) == 0 && !plain.isEmpty() ? any(plain) : NAMES[any(NAMES.length)];
                text.append("let ").append(name).append(" = ").append(source()).append("; ");
                known.add(name);
            }
        } else if (k < 9) {
            String target = place();
            if (target.indexOf('[') < 0 && known.contains(target)) {
                text.append(target).append(" = ").append(source()).append("; ");
            } else {
                text.append(target).append(" = ").append(target.indexOf('[') < 0 ? "0 + " : "").append(e(2)).append("; ");
            }
        } else if (k < 11) {
            if (!known.isEmpty()) {
                text.append(any(known)).append(" = ").append(source()).append("; ");
            }
        } else if (k < 15 && depth < 3) {
            text.append("if ").append(e(1)).append(' ');
            inBlock(depth);
            int elses = any(3);
            for (int i = 0; i < elses; i++) {
                text.append("else ");
                if (any(2) == 0) {
                    text.append("if ").append(e(1)).append(' ');
                    inBlock(depth + 1 + i);
                } else {
                    inBlock(depth);
                    break;
                }
            }
        } else if (k < 17 && depth < 3) {
            text.append("while ").append(e(1)).append(' ');
            inBlock(depth);
        } else if (k < 20 && depth < 3 && !locks.isEmpty()) {
            text.append("lock ").append(any(locks)).append(' ');
            inBlock(depth);
        } else if (k < 25 && !locks.isEmpty()) {
            String[] ops = {"take ", "give ", "wait ", "wake ", "wakeall ", "take ", "wait "};
            String lock = any(locks);
            String op = ops[any(ops.length)];
            text.append(op.startsWith("wa") && any(3) > 0 ? "take " + lock + "; " : "").append(op).append(lock).append("; ");
        } else if (k < 27) {
            boolean start = any(2) == 0 && !idle.isEmpty() || any(20) == 0;
            text.append(start ? "start " : "join ").append(start && !idle.isEmpty() && any(5) > 0 ? any(idle) : any(threads))
                    .append("; ");
        } else if (k < 30) {
            String[] ops = {"fence; ", "pause; ", "pause; ", "end; ", "assert " + e(1) + "; ", "assert 1; "};
            text.append(ops[any(ops.length)]);
        } else {
            text.append("call ").append(any(4)).append(", ").append(e(1)).append("; ");
        }
    }

    /** A text with something taken out, put in or put elsewhere. */
    static String spoiled(String made, Random random) {
        String[] bits = {";", "{", "}", "[", "]", "(", ")", "=", "==", "-", ",", "1", "9", "0", "4", "not ", "x ", "c0", "c1",
            "l0", "t0", " let a = ", "if 1 ", "else ", "self ", "cell ", "lock ", "always ", "a", "$", "!", "1234567890", "\n",
            "// ", "c0 = c1;", "let b = c0;", "let b = 1;", "abcdefghijklm ", "((((((((((((((((", "not not not not not not not ",
            "lock l0 { lock l0 { lock l0 { lock l0 { ", "call 7, 1;", "[3]", "swap c0, 1", "c1[1]", "end", "wake t0;",
            "let c = c0;", "let a = a;", "c0 = a;", "c0 = c0;", "c0 = c1[0];", "c0[0] = 1;", "cell c1[0];", "cell q[9];", "lock l0;",
            "cell c5; ", "thread t0 { } ", "always c0[1]; ", "finally c1[2] == 1; ", "always c0; ", "c1 = add c0, 1;", "take l0;",
            "let x1 = 1; let x2 = 1; let x3 = 1; let x4 = 1; let x5 = 1; let x6 = 1; let x7 = 1; let x8 = 1;", "cell z[8]; cell y[8];",
            "always 1; always 1; always 1;", "assert ((((((((((((((1))))))))))))));", "start t1;", "join l0;", "call 4, 1;"};
        StringBuilder b = new StringBuilder(made);
        int changes = 1 + random.nextInt(2);
        for (int k = 0; k < changes; k++) {
            int at = random.nextInt(b.length() + 1);
            if (random.nextBoolean()) {
                at = Math.max(b.indexOf(";", at), 0);
                at = at == 0 ? b.length() : at + 1;
            }
            switch (random.nextInt(4)) {
                case 0:
                    b.delete(at, Math.min(b.length(), at + 1 + random.nextInt(4)));
                    break;
                case 1:
                    b.setLength(at);
                    break;
                default:
                    b.insert(at, bits[random.nextInt(bits.length)]);
            }
        }
        return b.length() > 3000 ? b.substring(0, 3000) : b.toString();
    }
}
