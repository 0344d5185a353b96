/** The boundary cases of part 3 of the document: values, acts, what fails and by which number, locks, and the states of threads. */
public final class ThreadEdgeTest {
    private static final String MOST = "(999999999 * 2 + 147483649)";
    private static final String LEAST = "(-999999999 * 2 - 147483650)";
    private static final int FAIL = 4000000;

    public static void main(String[] args) {
        wrapping();
        dividing();
        comparing();
        truth();
        strengths();
        self();
        exchanges();
        exchangesThatFail();
        ownIsDoneAtOnce();
        flow();
        workedWithTheAct();
        rows();
        rowsOfClaims();
        giveAndTake();
        waitAndWake();
        asserts();
        ownSteps();
        actsBetween();
        starts();
        calls();
        lateOnes();
        failedActs();
        states();
        locks();
        waiting();
        waking();
        wokenOnce();
        joins();
        ends();
        Checks.end();
    }

    /** What an E gives in a thread, or FAIL and the number by which the thread failed. */
    private static int worked(String sum) {
        ScheduleHouse x = Checks.begun("thread t { let i = " + sum + "; pause; }", 0);
        return x.thread(0, 0) == 3 ? FAIL + x.thread(0, 1) : x.local(0, 0);
    }

    private static void gives(String sum, int want) {
        Checks.due(sum, worked(sum), want);
        // the same of cells, in an always: it is 0, or not
        ScheduleHouse x = Checks.compiled("always " + sum + "; always " + sum + " == " + LEAST + ";");
        x.attempt(0, 1);
        boolean zero = want == 0 || want == FAIL + 1;
        Checks.due("always " + sum, x.finding(0, 0), zero ? 0 : -1);
    }

    private static void wrapping() {
        Checks.says("VALUES are ints (32 bits, wrapping)");
        gives(MOST, Integer.MAX_VALUE);
        gives(LEAST, Integer.MIN_VALUE);
        gives(MOST + " + 1", Integer.MIN_VALUE);
        gives(LEAST + " - 1", Integer.MAX_VALUE);
        gives(MOST + " * 2", -2);
        gives(MOST + " * " + MOST, 1);
        gives("65536 * 65536", 0);
        gives("65536 * 32768", Integer.MIN_VALUE);
        gives("-" + LEAST, Integer.MIN_VALUE);
        gives("- -" + LEAST, Integer.MIN_VALUE);
        gives("0 - " + LEAST, Integer.MIN_VALUE);
        gives(LEAST + " * -1", Integer.MIN_VALUE);
        gives("999999999", 999999999);
        gives("-999999999", -999999999);
    }

    private static void dividing() {
        Checks.says("/ is rounded to 0, mod has the sign of the first, both by 0 FAIL (1)");
        int[] values = {7, -7, 6, 1, -1, 0, 2, -2};
        for (int a : values) {
            for (int b : values) {
                gives("(" + a + ") / " + b, b == 0 ? FAIL + 1 : a / b);
                gives("(" + a + ") mod " + b, b == 0 ? FAIL + 1 : a % b);
            }
        }
        gives("-7 / 2", -3);
        gives("7 / -2", -3);
        gives("-7 / -2", 3);
        gives("-7 mod 2", -1);
        gives("7 mod -2", 1);
        gives("-7 mod -2", -1);
        gives("-1 / 2", 0);
        gives(LEAST + " / -1", Integer.MIN_VALUE);
        gives(LEAST + " mod -1", 0);
        gives(LEAST + " / 1", Integer.MIN_VALUE);
        gives(MOST + " / " + LEAST, 0);
        gives(LEAST + " / 0", FAIL + 1);
        gives("0 / 0", FAIL + 1);
        gives("0 mod 0", FAIL + 1);
        gives("1 + 2 * (3 / (1 - 1))", FAIL + 1);
    }

    private static void comparing() {
        Checks.says("== and so on ... give 1 or 0");
        String[] texts = {LEAST, "-1", "0", "1", MOST};
        int[] values = {Integer.MIN_VALUE, -1, 0, 1, Integer.MAX_VALUE};
        for (int i = 0; i < values.length; i++) {
            for (int j = 0; j < values.length; j++) {
                gives(texts[i] + " == " + texts[j], i == j ? 1 : 0);
                gives(texts[i] + " != " + texts[j], i != j ? 1 : 0);
                gives(texts[i] + " < " + texts[j], i < j ? 1 : 0);
                gives(texts[i] + " <= " + texts[j], i <= j ? 1 : 0);
                gives(texts[i] + " > " + texts[j], i > j ? 1 : 0);
                gives(texts[i] + " >= " + texts[j], i >= j ? 1 : 0);
            }
        }
    }

    private static void truth() {
        Checks.says("not, and, or give 1 or 0, all but 0 being true (and, or work the right side in any case)");
        String[] texts = {"0", "1", "-1", "2", LEAST, MOST};
        for (int i = 0; i < texts.length; i++) {
            gives("not " + texts[i], i == 0 ? 1 : 0);
            for (int j = 0; j < texts.length; j++) {
                gives(texts[i] + " and " + texts[j], i != 0 && j != 0 ? 1 : 0);
                gives(texts[i] + " or " + texts[j], i != 0 || j != 0 ? 1 : 0);
            }
            gives(texts[i] + " and 1 / 0", FAIL + 1);
            gives(texts[i] + " or 1 / 0", FAIL + 1);
            gives("1 / 0 or " + texts[i], FAIL + 1);
            gives("1 mod 0 and " + texts[i], FAIL + 1);
        }
    }

    private static void strengths() {
        Checks.says("the weakest first: or; and; == != < <= > >=; + -; * / mod; before an operand, stronger than all these: not -");
        gives("1 or 1 and 0", 1);
        gives("0 and 1 or 1", 1);
        gives("0 and 1 == 0", 0);
        gives("2 and 2 == 2", 1);
        gives("2 == 2 and 2", 1);
        gives("1 == 0 + 1", 1);
        gives("1 + 1 < 2", 0);
        gives("2 + 3 * 4", 14);
        gives("2 * 3 + 4", 10);
        gives("9 - 4 / 2", 7);
        gives("9 - 5 mod 3", 7);
        gives("-2 + 3", 1);
        gives("-2 - 3", -5);
        gives("-3 mod 2 * 5", -5);
        gives("not 0 + 1", 2);
        gives("not 1 * 5", 0);
        gives("not 0 == 1", 1);
        gives("not 1 or 1", 1);
        gives("not -1", 0);
        gives("-not 0", -1);
        gives("2 - -2", 4);
        gives("2 * -3", -6);
        Checks.says("Of equal strength the left one first");
        gives("10 - 4 - 3", 3);
        gives("10 - 4 + 3", 9);
        gives("24 / 4 / 2", 3);
        gives("24 / 4 * 2", 12);
        gives("24 mod 10 * 2", 8);
        gives("2 * 24 mod 10", 8);
        gives("7 / 2 * 2", 6);
        gives("3 == 3 == 3", 0);
        gives("3 > 2 > 1", 0);
        gives("1 < 2 < 3", 1);
        gives("5 != 5 == 0", 1);
        gives("0 <= 0 >= 1", 1);
        gives("0 and 0 or 1 and 1", 1);
        gives("(10 - (4 - 3)) * 2", 18);
        Checks.says("An operand is WHOLE | self | NAME | ( E )");
        gives("(0 or 1)", 1);
        gives("(0 or 1) + 1", 2);
        gives("(0 or 0) == 0", 1);
        gives("2 * (1 and 3) - 1", 1);
        gives("3 * (2 == 2)", 3);
        gives("-(1 + 2)", -3);
        gives("not (1 and 0)", 1);
        gives("not (0 or 3) or 5", 1);
        gives("-(2) * -(3)", 6);
        gives("((((7))))", 7);
        gives("(1 + 2) * (3 + 4) - (5 - 6)", 22);
        gives("((1 or 0) and (0 or 1)) + (2 or 0) * 3", 4);
        gives("1 - (2 - (3 - (4 - 5)))", 3);
        gives("(2 < 3) + (3 > 2) + (2 != 2)", 2);
    }

    private static void self() {
        Checks.says("self is the thread's number (in the order of the TEXT, from 0)");
        StringBuilder b = new StringBuilder();
        for (int t = 0; t < 6; t++) {
            b.append(t == 2 ? "idle " : "").append("thread t").append(t).append(" { let i = self * 10; pause; ").append(t == 0 ? "start t2; " : "")
                    .append("} lock l").append(t).append("; ");
        }
        ScheduleHouse x = Checks.begun(b.toString(), 0);
        x.go(0);
        x.go(0);
        for (int t = 1; t < 6; t++) {
            Checks.due("self of " + t, x.local(t, 0), t * 10);
        }
    }

    private static ScheduleHouse doing(String defs, String body, int way) {
        ScheduleHouse x = Checks.begun(defs + " thread t { " + body + " pause; }", way);
        x.go(0);
        return x;
    }

    private static void exchanged(String cell, String what, int after, int answer) {
        for (String sure : new String[] {"", "sure "}) {
            for (int way = 0; way < 2; way++) {
                ScheduleHouse x = doing(sure + "cell a = " + cell + ";", "let i = " + what + ";", way);
                Checks.due("the cell " + cell + " behind " + what, x.cell(0), after);
                Checks.due("R of " + what, x.local(0, 0), answer);
                Checks.due("what was before", x.act(0, 3), Integer.parseInt(cell));
                Checks.due("what it wrote", x.act(0, 4), after);
                Checks.due("none late", x.run(7), 0);
            }
        }
    }

    private static void exchanges() {
        Checks.says("(the cell becomes E; itself and E; the second E, if it is the first one; R is what it was, of cas 1 if it was so, else 0)");
        exchanged("5", "swap a, 7", 7, 5);
        exchanged("-5", "swap a, -5", -5, -5);
        exchanged("5", "add a, 7", 12, 5);
        exchanged("5", "add a, -5", 0, 5);
        exchanged("999999999", "add a, " + MOST, Integer.MAX_VALUE + 999999999, 999999999);
        exchanged("-1", "add a, " + LEAST, Integer.MAX_VALUE, -1);
        exchanged("5", "cas a, 5, 9", 9, 1);
        exchanged("5", "cas a, 4, 9", 5, 0);
        exchanged("5", "cas a, 6, 9", 5, 0);
        exchanged("0", "cas a, 0, 0", 0, 1);
        exchanged("1", "cas a, 0, 1", 1, 0);
    }

    private static void exchangesThatFail() {
        Checks.says("E of an ACT are worked with it, from the left to the right ... (An ACT's [ ] first, then its E, then the rest.)");
        String[] ones = {"let i = swap r[0], 1 / 0;", "let i = add r[1 / 0], 1;", "let i = cas r[1], 1 / 0, 1;", "let i = cas r[1], 9, 1 / 0;",
            "let i = r[1 mod 0];", "r[1 / 0] = 1;", "r[0] = 1 mod 0;", "c = 1 / 0;", "call 0, 1 / 0;", "call 0, 1; call 0, 1 / 0;", "back 1 / 0;"};
        String[] twos = {"let i = swap r[2], 1 / 0;", "let i = cas r[-1], 1 / 0, 1 / 0;", "r[2] = 1 / 0;", "let i = r[2];"};
        for (int way = 0; way < 2; way++) {
            for (String s : ones) {
                Checks.due(s, failure(s, way), 1);
            }
            for (String s : twos) {
                Checks.due(s, failure(s, way), 2);
            }
            Checks.due("1 in [ ], before 2 in E", failure("r[1 / 0] = 5;", way), 1);
        }
        Checks.due("1 before the 9th", failure("c = 1; ".repeat(8) + "c = 1 / 0;", 1), 1);
        Checks.due("2 before the 9th", failure("c = 1; ".repeat(8) + "r[2] = 1;", 1), 2);
    }

    /** The number by which a thread fails that does this, its own acts before all late ones; 0 if it does not. */
    private static int failure(String body, int way) {
        ScheduleHouse x = Checks.begun("cell c; cell r[2]; sure cell s; lock l; thread t { " + body + " }", way);
        for (int k = 0; k < 60 && x.choices() > 0; k++) {
            x.go(0);
        }
        Checks.due("FAILED, or no number", x.thread(0, 0) == 3, x.thread(0, 1) != 0);
        return x.thread(0, 1);
    }

    private static void ownIsDoneAtOnce() {
        Checks.says("All else is its own: it is done at once behind the ACT before it (or at the thread's beginning), up to before the next ACT");
        ScheduleHouse x = Checks.begun("cell c; thread t { let i = 1; i = i + 1; if i == 2 { i = 3; } while i < 9 { i = i + 1; } assert i; pause; i = 5; let j = 6; c = i; i = 7; }", 0);
        Checks.due("at the beginning", x.local(0, 0), 9);
        Checks.due("no act was done", x.run(2), 0);
        Checks.due("up to its first act", x.choice(0, 2), 12);
        x.go(0);
        Checks.due("behind the act", x.local(0, 0), 5);
        Checks.due("up to the next one", x.local(0, 1), 6);
        Checks.due("one act", x.run(2), 1);
        x.go(0);
        Checks.due("up to its end", x.thread(0, 0), 2);
        ScheduleHouse y = Checks.begun("thread t { start u; } idle thread u { let i = 4; assert 0; }", 0);
        Checks.due("asleep", y.thread(1, 0), 0);
        y.go(0);
        Checks.due("at its beginning", y.thread(1, 1), 5);
        ScheduleHouse z = Checks.begun("thread t { } thread u { end; } thread v { assert 0; } idle thread w { assert 0; }", 1);
        int[] want = {2, 2, 3, 0};
        for (int t = 0; t < 4; t++) {
            Checks.due("state of " + t, z.thread(t, 0), want[t]);
        }
        Checks.due("over at once", z.run(3), 1);
    }

    /** The values that a thread writes, one behind the other, as digits. */
    private static void writes(String body, String want) {
        ScheduleHouse x = Checks.begun("cell a; lock l; thread t { " + body + " }", 0);
        StringBuilder got = new StringBuilder();
        for (int k = 0; k < 100 && x.choices() > 0; k++) {
            x.go(0);
            if (x.act(k, 1) == 1) {
                got.append(x.act(k, 4));
            }
        }
        Checks.due(body + " wrote " + got + ", due is " + want, got.toString().equals(want), true);
        Checks.due("ended: " + body, x.thread(0, 0), 2);
    }

    private static void flow() {
        Checks.says("IF: if E BLOCK [else BLOCK | else IF]; while E BLOCK; end");
        String three = "let x = N; if x == 0 { a = 1; } else if x == 1 { a = 2; } else if x == 2 { a = 3; } ";
        String[] with = {"19", "29", "39", "49", "49"};
        String[] without = {"19", "29", "39", "9", "9"};
        for (int n = 0; n < 5; n++) {
            writes((three + "else { a = 4; } a = 9;").replace("N", String.valueOf(n)), with[n]);
            writes((three + "a = 9;").replace("N", String.valueOf(n)), without[n]);
            writes(("while 1 { " + three + "else { a = 4; } a = 9; if x { end; } a = 8; end; }").replace("N", String.valueOf(n)), n == 0 ? "198" : with[n]);
        }
        writes("if 1 { } else { a = 1; } a = 2;", "2");
        writes("if 0 { a = 1; } else { } a = 2;", "2");
        writes("if 1 { if 0 { a = 1; } else { a = 2; } a = 3; } else { a = 4; } a = 5;", "235");
        writes("if 0 { a = 1; } else { if 1 { a = 2; } else { a = 3; } a = 4; } a = 5;", "245");
        writes("if 0 { a = 1; } else if 0 { a = 2; } else { if 1 { a = 3; } a = 4; } a = 5;", "345");
        writes("if 1 { a = 1; if 1 { a = 2; } else if 1 { a = 3; } } else if 1 { a = 4; } a = 5;", "125");
        writes("if -1 { a = 1; } if 2 { a = 2; } if 0 { a = 3; }", "12");
        writes("while 0 { a = 1; } a = 2;", "2");
        writes("let i = 0; while i < 3 { a = i; i = i + 1; } a = 9;", "0129");
        writes("let i = 3; while i { a = i; i = i - 1; } a = 9;", "3219");
        writes("let i = 0; while i < 2 { let j = 0; while j < 3 { a = i * 3 + j; j = j + 1; } i = i + 1; } a = 9;", "0123459");
        writes("let i = 0; while i < 4 { if i mod 2 { a = i; } else { a = 7; } i = i + 1; } a = 9;", "71739");
        writes("let i = 0; while i < 3 { lock l { a = i; } i = i + 1; } a = 9;", "0129");
        writes("let i = 0; while 1 { a = i; i = i + 1; if i == 3 { end; } }", "012");
        writes("lock l { if 1 { a = 1; } else { a = 2; } a = 3; } a = 4; end; a = 5;", "134");
        writes("let i = 1; while i { i = 0; while i { a = 1; } a = 2; } a = 3;", "23");
    }

    private static void workedWithTheAct() {
        Checks.says("E of an ACT are worked with it");
        for (String s : new String[] {"c = 1 / 0;", "let i = r[1 / 0];", "let i = r[9];", "call 0, 1 / 0;", "back 1 / 0;", "give l;", "wait l;", "wake l;", "start t;",
            "back 1;", "let i = cas c, 1 / 0, 1;"}) {
            ScheduleHouse x = Checks.begun("cell c; cell r[2]; lock l; thread t { " + s + " }", 0);
            Checks.due("it is going: " + s, x.thread(0, 0), 1);
            Checks.due("it is a choice: " + s, x.choices(), 1);
            Checks.due("then it is over: " + s, x.go(0), 0);
            Checks.due("failed: " + s, x.thread(0, 0), 3);
            Checks.due("an act all the same: " + s, x.run(2), 1);
            Checks.due("a choice all the same: " + s, x.run(1), 1);
        }
        Checks.due("an own S fails at once", Checks.begun("thread t { let i = 1 / 0; pause; }", 0).thread(0, 1), 1);
        Checks.due("an if", Checks.begun("thread t { if 1 / 0 { } pause; }", 0).thread(0, 1), 1);
        Checks.due("a while", Checks.begun("thread t { while 1 / 0 { } pause; }", 0).thread(0, 1), 1);
        Checks.due("an assert", Checks.begun("thread t { assert 1 / 0; pause; }", 0).thread(0, 1), 1);
        Checks.due("an =", Checks.begun("thread t { let i = 1; i = i mod 0; pause; }", 0).thread(0, 1), 1);
    }

    private static void rows() {
        Checks.says("A [ ] beyond its row FAILS (2)");
        String[] forms = {"let i = r[N];", "r[N] = 7;", "let i = swap r[N], 7;", "let i = add r[N], 7;", "let i = cas r[N], 3, 7;"};
        for (int size : new int[] {1, 2, 8}) {
            for (String sure : new String[] {"", "sure "}) {
                for (int way = 0; way < 2; way++) {
                    String defs = "cell before = 3; " + sure + "cell r[" + size + "] = 3; cell behind = 3;";
                    for (String form : forms) {
                        for (String n : new String[] {"-1", String.valueOf(size), String.valueOf(size + 1), "999999999", LEAST, MOST}) {
                            ScheduleHouse x = Checks.begun(defs + " thread t { " + form.replace("N", n) + " }", way);
                            Checks.due("no cell", x.choice(0, 3), -1);
                            x.go(0);
                            Checks.due("2", x.thread(0, 1), 2);
                            Checks.due("no cell", x.act(0, 2), -1);
                            Checks.due("nothing read", x.act(0, 3), 0);
                            Checks.due("nothing written", x.act(0, 4), 0);
                            Checks.due("none late", x.run(7), 0);
                            for (int c = 0; c < size + 2; c++) {
                                Checks.due("nothing else", x.cell(c), 3);
                            }
                        }
                        for (int n : new int[] {0, size - 1}) {
                            ScheduleHouse x = Checks.begun(defs + " thread t { " + form.replace("N", String.valueOf(n)) + " pause; }", way);
                            Checks.due("its cell", x.choice(0, 3), 1 + n);
                            x.go(0);
                            Checks.due("good", x.thread(0, 0), 1);
                            Checks.due("its cell", x.act(0, 2), 1 + n);
                        }
                    }
                }
            }
        }
    }

    private static void rowsOfClaims() {
        Checks.says("in always, finally also NAME [ WHOLE ]");
        ScheduleHouse x = Checks.compiled("cell a = 1; cell r[8]; cell b = 2; thread t { let i = 0; while i < 8 { r[i] = i + 10; i = i + 1; } }"
                + " always r[0] == 0; always r[7] == 0; finally r[0] == 10 and r[7] == 17 and b == 2 and a == 1; finally r[6] == 17;");
        x.attempt(0, 100);
        int[] want = {1, 8, -1, -1, -1, 8, -1, -1};
        for (int f = 0; f < 8; f++) {
            Checks.due("finding " + f, x.finding(0, f), want[f]);
        }
    }

    private static void giveAndTake() {
        Checks.says("3 GIVE of a lock that it does not hold");
        Checks.due("never taken", failure("give l;", 0), 3);
        Checks.due("given once", failure("take l; give l; give l;", 0), 3);
        Checks.due("taken twice, given twice", failure("take l; take l; give l; give l;", 0), 0);
        Checks.due("taken twice, given thrice", failure("take l; take l; give l; give l; give l;", 0), 3);
        Checks.due("by its BLOCK", failure("lock l { give l; }", 0), 3);
        Checks.due("within its BLOCK", failure("lock l { take l; give l; }", 0), 0);
        Checks.due("taken behind", failure("lock l { give l; take l; }", 0), 0);
        ScheduleHouse x = Checks.begun("lock k; lock l; thread t { take l; pause; } thread u { give l; } thread v { take k; give l; }", 0);
        x.go(0);
        x.go(1);
        Checks.due("of another's", x.thread(1, 1), 3);
        Checks.due("held still", x.lock(1, 0), 0);
        Checks.due("held still", x.lock(1, 1), 1);
        x.go(1);
        x.go(1);
        Checks.due("of another lock", x.thread(2, 1), 3);
        Checks.due("its own stays held", x.lock(0, 0), 2);
    }

    private static void waitAndWake() {
        Checks.says("4 WAIT, WAKE without holding that lock");
        for (String s : new String[] {"wait l;", "wake l;", "wakeall l;", "take l; give l; wait l;", "take l; give l; wake l;", "take l; give l; wakeall l;"}) {
            Checks.due(s, failure(s, 0), 4);
            Checks.due(s, failure(s, 1), 4);
        }
        Checks.due("holding it", failure("take l; wake l; wakeall l;", 0), 0);
        Checks.due("holding it once of twice", failure("take l; take l; give l; wake l; wakeall l;", 0), 0);
        for (String s : new String[] {"wait", "wake", "wakeall"}) {
            ScheduleHouse x = Checks.begun("lock k; lock l; thread t { take l; pause; } thread u { " + s + " l; } thread v { take k; " + s + " l; }", 0);
            x.go(0);
            x.go(1);
            Checks.due("another holds it: " + s, x.thread(1, 1), 4);
            Checks.due("none waits", x.lock(1, 2), 0);
            x.go(1);
            x.go(1);
            Checks.due("another lock: " + s, x.thread(2, 1), 4);
        }
    }

    private static void asserts() {
        Checks.says("5 assert of 0");
        Checks.due("0", failure("assert 0;", 0), 5);
        Checks.due("1 - 1", failure("assert 1 - 1;", 0), 5);
        Checks.due("1", failure("assert 1;", 0), 0);
        Checks.due("-1", failure("assert -1;", 0), 0);
        Checks.due("the least", failure("assert " + LEAST + ";", 0), 0);
    }

    /** Own S, 2 * rounds + 2 of them, behind which comes one more. */
    private static String own(int rounds) {
        return own("i", rounds);
    }

    private static String own(String i, int rounds) {
        return "let i = 0; while i < N { i = i + 1; } ".replace("i ", i + " ").replace("N", String.valueOf(rounds));
    }

    private static int ownFailure(String body) {
        return Checks.begun("cell c; lock l; thread t { " + body + " }", 0).thread(0, 1);
    }

    private static void ownSteps() {
        Checks.says("6 more than 300 S that are its own, one behind the other (let and = that are no ACT, each if, an else's too, each trial of a while, assert, end)");
        String[] one = {"let j = 1;", "i = 1;", "if 0 { }", "if 1 { }", "if 1 { } else { }", "if 0 { } else { }", "if 1 { } else if 1 { }", "while 0 { }",
            "assert 1;", "end;", "let j = self;"};
        for (String s : one) {
            Checks.due("the 300th: " + s, ownFailure(own(148) + "assert 1; " + s), 0);
            Checks.due("the 301st: " + s, ownFailure(own(149) + s), 6);
            Checks.due("the 301st, a pause behind it: " + s, ownFailure(own(149) + s + " pause;"), 6);
        }
        String[] two = {"if 0 { } else if 0 { }", "if 0 { } else if 1 { }", "if 0 { } else if 1 { } else { }", "if 1 { let j = 1; }", "if 0 { } else { i = 1; }",
            "let j = 1; while j < 1 { }", "if 1 { end; }", "if 1 { assert 1; } else { assert 0; }", "let j = 1; j = 2;"};
        for (String s : two) {
            Checks.due("the 299th and 300th: " + s, ownFailure(own(148) + s), 0);
            Checks.due("the 300th and 301st: " + s, ownFailure(own(148) + "assert 1; " + s), 6);
        }
        Checks.due("the 300th and 2 more", ownFailure(own(148) + "assert 1; if 0 { } else if 0 { } else if 1 { }"), 6);
        Checks.due("three", ownFailure(own(147) + "assert 1; if 0 { } else if 0 { } else if 0 { }"), 0);
        Checks.due("a trial that ends it is one, too", ownFailure(own(149)), 0);
        Checks.due("for ever", ownFailure("while 1 { }"), 6);
        Checks.due("for ever", ownFailure("while 1 { let j = 1; }"), 6);
        for (String none : new String[] {"pause;", "fence;", "take l;", "lock l { }", "c = 1;", "let j = c;", "i = c;", "i = add c, 1;", "call 1, 1;", "back 1;", "join t;"}) {
            Checks.due("an ACT is not its own: " + none, ownFailure(own(149) + none), 0);
        }
        Checks.due("its end is none", Checks.begun("thread t { " + own(149) + "}", 0).thread(0, 0), 2);
        // what is too much is not done
        Checks.due("6 before 5", ownFailure(own(149) + "assert 0;"), 6);
        Checks.due("6 before 1", ownFailure(own(149) + "i = 1 / 0;"), 6);
        Checks.due("5 is the 300th", ownFailure(own(148) + "assert 1; assert 0;"), 5);
        ScheduleHouse x = Checks.begun("thread t { " + own(149) + "let j = 7; }", 0);
        Checks.due("its LOCAL is not known", x.thread(0, 3), 1);
        Checks.due("the others are", x.local(0, 0), 149);
        ScheduleHouse y = Checks.begun("thread t { " + own(149) + "i = 7; }", 0);
        Checks.due("it is not done", y.local(0, 0), 149);
    }

    private static void actsBetween() {
        Checks.says("one behind the other");
        String second = own("j", 149);
        String[] acts = {"pause;", "fence;", "c = 1;", "i = c;", "i = r[0];", "r[0] = 1;", "i = swap c, 1;", "i = add c, 1;", "i = cas c, 1, 1;", "take l;", "start u;",
            "join v;", "call 1, 1;"};
        for (String act : acts) {
            ScheduleHouse x = Checks.begun("cell c; cell r[2]; lock l; thread t { " + own(149) + act + " " + second + "pause; } idle thread u { } thread v { }", 0);
            Checks.due("going: " + act, x.thread(0, 0), 1);
            x.go(0);
            Checks.due("300 before and 300 behind: " + act, x.thread(0, 0), 1);
            ScheduleHouse y = Checks.begun("cell c; cell r[2]; lock l; thread t { " + own(149) + act + " " + second + "assert 1; } idle thread u { } thread v { }", 0);
            y.go(0);
            Checks.due("301 behind: " + act, y.thread(0, 1), 6);
        }
        ScheduleHouse x = Checks.begun("thread t { " + own(149) + "start u; " + second + "} idle thread u { " + own(149) + "}", 0);
        x.go(0);
        Checks.due("each thread counts its own", x.thread(0, 0), 2);
        Checks.due("each thread counts its own", x.thread(1, 0), 2);
    }

    private static void starts() {
        Checks.says("7 START of one that is not ASLEEP");
        ScheduleHouse going = Checks.begun("thread t { start u; } thread u { pause; }", 0);
        going.go(0);
        Checks.due("going", going.thread(0, 1), 7);
        Checks.due("as it was", going.thread(1, 0), 1);
        ScheduleHouse ended = Checks.begun("thread t { start u; } thread u { }", 0);
        ended.go(0);
        Checks.due("ended", ended.thread(0, 1), 7);
        Checks.due("as it was", ended.thread(1, 0), 2);
        ScheduleHouse failed = Checks.begun("thread t { start u; } thread u { assert 0; }", 0);
        failed.go(0);
        Checks.due("failed", failed.thread(0, 1), 7);
        Checks.due("as it was", failed.thread(1, 1), 5);
        ScheduleHouse itself = Checks.begun("thread t { start t; }", 0);
        itself.go(0);
        Checks.due("itself", itself.thread(0, 1), 7);
        ScheduleHouse twice = Checks.begun("thread t { start u; start u; } idle thread u { pause; }", 0);
        twice.go(0);
        Checks.due("asleep: started", twice.thread(1, 0), 1);
        Checks.due("asleep: started", twice.thread(0, 0), 1);
        twice.go(0);
        Checks.due("twice", twice.thread(0, 1), 7);
        ScheduleHouse two = Checks.begun("thread t { start v; } thread u { start v; } idle thread v { }", 0);
        two.go(1);
        two.go(0);
        Checks.due("the second of two", two.thread(0, 1), 7);
        Checks.due("the first of two", two.thread(1, 0), 2);
    }

    private static void calls() {
        Checks.says("8 CALL while it is in one, BACK while it is in none");
        Checks.due("call, call", failure("call 0, 1; call 0, 1;", 0), 8);
        Checks.due("call, call of another kind", failure("call 0, 1; call 3, 1;", 0), 8);
        Checks.due("back", failure("back 1;", 0), 8);
        Checks.due("back, back", failure("call 0, 1; back 1; back 1;", 0), 8);
        Checks.due("call, back, call", failure("call 0, 1; back 1; call 0, 1;", 0), 0);
        Checks.due("call, back, call, back", failure("call 3, 1; back 1; call 0, 1; back 0;", 1), 0);
        Checks.due("an end within one", failure("call 0, 1; end;", 0), 0);
        ScheduleHouse x = Checks.begun("thread t { call 1, 1; pause; } thread u { call 1, 1; back 1; } thread v { back 1; }", 0);
        x.go(0);
        x.go(1);
        x.go(1);
        x.go(1);
        Checks.due("each thread for itself", x.thread(1, 0), 2);
        Checks.due("each thread for itself", x.thread(2, 1), 8);
    }

    private static void lateOnes() {
        Checks.says("9 a 9th WRITE that has not come (way 1; it is a CHOICE all the same)");
        String eight = "c = 1; r[0] = 2; r[1] = 3; c = 4; r[0] = 5; r[1] = 6; c = 7; c = 8; ";
        Checks.due("eight", failure(eight, 1), 0);
        Checks.due("nine", failure(eight + "c = 9;", 1), 9);
        Checks.due("nine", failure(eight + "r[1] = 9;", 1), 9);
        Checks.due("nine in way 0", failure(eight + "c = 9;", 0), 0);
        Checks.due("a sure one waits", failure(eight + "s = 9;", 1), 0);
        Checks.due("a fence between", failure(eight + "fence; " + eight, 1), 0);
        ScheduleHouse x = Checks.begun("cell c; thread t { " + "c = 1; ".repeat(8) + "c = 2; } thread u { " + "c = 3; ".repeat(8) + "}", 1);
        for (int k = 0; k < 8; k++) {
            x.go(0);
        }
        Checks.due("its act, its first late one, u's act", x.choices(), 3);
        Checks.due("a choice all the same", x.choice(0, 1), 0);
        Checks.due("of its cell", x.choice(0, 3), 0);
        for (int k = 0; k < 8; k++) {
            x.go(2);
        }
        Checks.due("each thread has its own", x.run(7), 16);
        Checks.due("each thread has its own", x.thread(1, 2), 8);
        x.go(0);
        Checks.due("9", x.thread(0, 1), 9);
        Checks.due("its cell is told", x.act(16, 2), 0);
        Checks.due("nothing was written", x.act(16, 4), 0);
        Checks.due("late ones as before", x.thread(0, 2), 8);
        Checks.due("they may come", x.choices(), 2);
    }

    private static void failedActs() {
        Checks.says("An ACT that FAILS is one all the same, but does nothing else, and RACES with none");
        ScheduleHouse x = Checks.begun("cell c = 5; cell r[2]; lock l; thread t { c = 1 / 0; } thread u { let i = swap c, 1 / 0; } thread v { let i = cas c, 5, 1 / 0; }"
                + " thread w { c = 6; }", 0);
        for (int k = 0; k < 4; k++) {
            x.go(0);
        }
        Checks.due("acts", x.run(2), 4);
        Checks.due("races", x.run(5), 0);
        Checks.due("only w wrote", x.cell(0), 6);
        for (int a = 0; a < 3; a++) {
            Checks.due("its cell", x.act(a, 2), 0);
            Checks.due("nothing read", x.act(a, 3), 0);
            Checks.due("nothing written", x.act(a, 4), 0);
            Checks.due("no LOCAL", x.thread(a, 3), 0);
        }
        ScheduleHouse y = Checks.begun("thread t { call 2, 1; call 1, 7; } thread u { back 9; }", 0);
        y.draw(1, 400);
        Checks.due("calls begun", y.run(6), 1);
        Checks.due("linear", y.linear(0), 1);
        for (int a = 0; a < 3; a++) {
            if (y.act(a, 1) == 14) {
                Checks.due("a BACK that fails has no value", y.act(a, 4), 0);
                Checks.due("nor a kind", y.act(a, 2), -1);
            } else if (y.act(a, 2) == 1) {
                Checks.due("a CALL that fails has no value", y.act(a, 4), 0);
            }
        }
        ScheduleHouse z = Checks.begun("lock l; thread t { take l; pause; } thread u { wait l; } thread v { give l; }", 0);
        z.go(0);
        z.go(1);
        z.go(1);
        Checks.due("none waits", z.lock(0, 2), 0);
        Checks.due("t holds it", z.lock(0, 0), 0);
        Checks.due("a failed one has no choice", z.choices(), 1);
    }

    private static void states() {
        Checks.says("A thread is ASLEEP (idle ones, up to their START), GOING, ENDED (behind its BLOCK, by end) or FAILED (with a number; its locks stay held)");
        ScheduleHouse x = Checks.begun("lock l; idle thread a { pause; } thread b { pause; start a; } thread c { end; pause; } thread d { } thread e { take l; take l; assert 0; }", 0);
        int[] want = {0, 1, 2, 2, 1};
        for (int t = 0; t < 5; t++) {
            Checks.due("state " + t, x.thread(t, 0), want[t]);
            Checks.due("number " + t, x.thread(t, 1), 0);
        }
        Checks.due("b and e", x.choices(), 2);
        x.go(1);
        x.go(1);
        Checks.due("failed", x.thread(4, 0), 3);
        Checks.due("number", x.thread(4, 1), 5);
        Checks.due("held", x.lock(0, 0), 4);
        Checks.due("held twice", x.lock(0, 1), 2);
        x.go(0);
        Checks.due("asleep up to its START", x.thread(0, 0), 0);
        x.go(0);
        Checks.due("going", x.thread(0, 0), 1);
        x.go(0);
        Checks.due("ended", x.thread(0, 0), 2);
        Checks.due("over", x.run(3), 1);
        Checks.due("not stuck", x.run(4), 0);
    }

    private static void locks() {
        Checks.says("A lock is held by a thread as often as it was taken more often than given; TAKE can be done when no other thread holds it");
        ScheduleHouse x = Checks.begun("lock l; thread t { let i = 0; while i < 20 { take l; i = i + 1; } while i > 0 { give l; i = i - 1; } } thread u { take l; }", 0);
        for (int k = 1; k <= 20; k++) {
            Checks.due("it may be taken", x.choice(0, 2), 5);
            x.go(0);
            Checks.due("held " + k, x.lock(0, 1), k);
            Checks.due("by t", x.lock(0, 0), 0);
            Checks.due("not by u", x.choices(), 1);
        }
        for (int k = 19; k >= 1; k--) {
            x.go(0);
            Checks.due("held " + k, x.lock(0, 1), k);
            Checks.due("by t", x.lock(0, 0), 0);
            Checks.due("not by u", x.choices(), 1);
        }
        x.go(0);
        Checks.due("free", x.lock(0, 0), -1);
        Checks.due("free", x.lock(0, 1), 0);
        Checks.due("now by u", x.choices(), 1);
        Checks.due("now by u", x.choice(0, 0), 1);
    }

    private static void waiting() {
        Checks.says("WAIT: the thread gives the lock wholly and WAITS; when it was woken it goes on by taking it again, as often as before");
        ScheduleHouse x = Checks.begun("lock k; lock l; thread t { take k; take l; take l; take l; wait l; pause; } thread u { take l; wakeall l; pause; give l; }", 0);
        for (int k = 0; k < 5; k++) {
            x.go(0);
        }
        Checks.due("given wholly", x.lock(1, 0), -1);
        Checks.due("given wholly", x.lock(1, 1), 0);
        Checks.due("waits", x.lock(1, 2), 1);
        Checks.due("of k none", x.lock(0, 2), 0);
        Checks.due("the other lock stays held", x.lock(0, 0), 0);
        Checks.due("it is going", x.thread(0, 0), 1);
        Checks.due("only u", x.choices(), 1);
        x.go(0);
        x.go(0);
        Checks.due("woken", x.lock(1, 2), 0);
        Checks.due("u holds the lock", x.choices(), 1);
        x.go(0);
        Checks.due("u holds the lock still", x.choices(), 1);
        x.go(0);
        Checks.due("RETAKE", x.choice(0, 2), 15);
        Checks.due("of l", x.choice(0, 3), 1);
        x.go(0);
        Checks.due("as often as before", x.lock(1, 1), 3);
        Checks.due("by t", x.lock(1, 0), 0);
        Checks.due("an act of it", x.act(x.run(2) - 1, 0), 0);
        Checks.due("RETAKE", x.act(x.run(2) - 1, 1), 15);
        Checks.due("then it goes on", x.choice(0, 2), 12);
        ScheduleHouse y = Checks.begun("lock l; thread t { take l; wait l; } thread u { lock l { pause; } }", 0);
        y.draw(1, 400);
        Checks.due("never woken: stuck", y.run(4), 1);
        Checks.due("never woken: it waits", y.lock(0, 2), 1);
    }

    private static void waking() {
        Checks.says("wake: one of those that WAIT for the lock (which one is chosen), none if there is none; wakeall: all");
        String waiters = "thread a { take l; wait l; } thread b { take l; wait l; } thread c { take k; wait k; } thread d { take l; wait l; } ";
        String locks = "lock k; lock l; ";
        ScheduleHouse x = Checks.begun(locks + waiters + "thread e { take l; wake l; wake l; wake l; wake l; }", 0);
        for (int k = 0; k < 8; k++) {
            x.go(0);
        }
        Checks.due("three wait for l", x.lock(1, 2), 3);
        Checks.due("one waits for k", x.lock(0, 2), 1);
        x.go(0);
        Checks.due("one choice for each", x.choices(), 3);
        int[] who = {0, 1, 3};
        for (int i = 0; i < 3; i++) {
            Checks.due("by the number of the woken thread", x.choice(i, 4), who[i]);
            Checks.due("WAKE", x.choice(i, 2), 8);
            Checks.due("of l", x.choice(i, 3), 1);
            Checks.due("by e", x.choice(i, 0), 4);
        }
        x.go(1);
        Checks.due("two choices", x.choices(), 2);
        Checks.due("a", x.choice(0, 4), 0);
        Checks.due("d", x.choice(1, 4), 3);
        x.go(1);
        Checks.due("one choice", x.choices(), 1);
        Checks.due("a", x.choice(0, 4), 0);
        Checks.due("a waits", x.lock(1, 2), 1);
        x.go(0);
        Checks.due("none waits", x.lock(1, 2), 0);
        Checks.due("none to wake", x.choices(), 1);
        Checks.due("none to wake", x.choice(0, 4), -1);
        x.go(0);
        Checks.due("e ended with the lock", x.thread(4, 0), 2);
        Checks.due("over", x.run(4), 1);
        ScheduleHouse y = Checks.begun(locks + waiters + "thread e { take l; wakeall l; give l; wakeall l; }", 0);
        for (int k = 0; k < 9; k++) {
            y.go(0);
        }
        Checks.due("one choice", y.choices(), 1);
        Checks.due("wakeall tells none", y.choice(0, 4), -1);
        y.go(0);
        Checks.due("all are woken", y.lock(1, 2), 0);
        Checks.due("not those of k", y.lock(0, 2), 1);
        Checks.due("give, then each may take it", y.go(0), 4);
        y.go(0);
        Checks.due("one has it: the last wakeall alone", y.choices(), 1);
        ScheduleHouse z = Checks.begun(locks + waiters + "thread e { wake l; }", 0);
        for (int k = 0; k < 8; k++) {
            z.go(0);
        }
        Checks.due("not by one that does not hold it", z.choices(), 1);
        Checks.due("none is told", z.choice(0, 4), -1);
        z.go(0);
        Checks.due("4", z.thread(4, 1), 4);
        Checks.due("none is woken", z.lock(1, 2), 3);
    }

    private static void wokenOnce() {
        Checks.says("when it was woken it goes on by taking it again");
        ScheduleHouse x = Checks.begun("lock l; thread t { take l; wait l; wait l; pause; } thread u { take l; wake l; give l; take l; give l; }", 0);
        for (int k = 0; k < 5; k++) {
            x.go(0);
        }
        Checks.due("woken: t, or u's next take", x.choices(), 2);
        x.go(0);
        Checks.due("t holds it again", x.lock(0, 0), 0);
        x.go(0);
        Checks.due("it waits again", x.lock(0, 2), 1);
        Checks.due("it was woken once: u alone", x.choices(), 1);
        Checks.due("u alone", x.choice(0, 0), 1);
        x.go(0);
        x.go(0);
        Checks.due("stuck", x.run(4), 1);
        // it is held as often as before this WAIT, not an earlier one
        ScheduleHouse y = Checks.begun("lock l; thread t { take l; take l; take l; wait l; give l; wait l; pause; } thread u { take l; wake l; give l; take l; wake l; give l; }", 0);
        for (int k = 0; k < 4; k++) {
            y.go(0);
        }
        for (int k = 0; k < 3; k++) {
            y.go(0);
        }
        y.go(0);
        Checks.due("three times", y.lock(0, 1), 3);
        y.go(0);
        y.go(0);
        for (int k = 0; k < 3; k++) {
            y.go(0);
        }
        y.go(0);
        Checks.due("twice", y.lock(0, 1), 2);
        Checks.due("by t", y.lock(0, 0), 0);
    }

    private static void joins() {
        Checks.says("JOIN can be done when the thread told has ENDED or FAILED, and has no LATE ones (of itself: never)");
        Checks.due("itself", Checks.begun("thread t { join t; }", 0).choices(), 0);
        Checks.due("asleep", Checks.begun("thread t { join u; } idle thread u { }", 0).choices(), 0);
        Checks.due("going", Checks.begun("thread t { join u; } thread u { join u; }", 0).choices(), 0);
        Checks.due("ended", Checks.begun("thread t { join u; } thread u { }", 0).choices(), 1);
        Checks.due("failed", Checks.begun("thread t { join u; } thread u { assert 0; }", 0).choices(), 1);
        Checks.due("twice", failure("join u; join u; } thread u { ", 0), 0);
        for (String end : new String[] {"", "end;", "assert 0;"}) {
            ScheduleHouse x = Checks.begun("cell c; cell d; thread t { join u; } thread u { c = 1; d = 1; " + end + " }", 1);
            x.go(0);
            x.go(0);
            Checks.due("two late ones", x.choices(), 2);
            x.go(1);
            Checks.due("one late one", x.choices(), 1);
            Checks.due("a late one", x.choice(0, 1), 1);
            x.go(0);
            Checks.due("then the join", x.choices(), 1);
            Checks.due("JOIN", x.choice(0, 2), 10);
            Checks.due("of u", x.choice(0, 3), 1);
        }
    }

    private static void ends() {
        Checks.says("end behind a lock's BLOCK that was not given: it stays held");
        ScheduleHouse x = Checks.begun("lock k; lock l; thread t { lock k { lock l { lock l { if 1 { end; } pause; } } } pause; } thread u { take l; }", 0);
        for (int k = 0; k < 3; k++) {
            x.go(0);
        }
        Checks.due("ended", x.thread(0, 0), 2);
        Checks.due("k held", x.lock(0, 0), 0);
        Checks.due("l held", x.lock(1, 0), 0);
        Checks.due("l held twice", x.lock(1, 1), 2);
        Checks.due("u is stuck", x.run(4), 1);
        Checks.due("no LOCALS of an ended one", x.thread(0, 3), 0);
        ScheduleHouse y = Checks.begun("lock l; thread t { take l; } thread u { take l; }", 0);
        y.go(0);
        Checks.due("behind its BLOCK, too", y.lock(0, 0), 0);
        Checks.due("stuck", y.run(4), 1);
        ScheduleHouse z = Checks.begun("thread t { while 1 { if 1 { end; } } }", 0);
        Checks.due("out of a loop", z.thread(0, 0), 2);
    }
}
