/** The boundary cases of limits, names and FAULTS (the second half of part 2 of the document) and of promises 4 to 6. */
public final class FaultEdgeTest {
    private static final String SIX_LOCKS = "lock a; lock b; lock c; lock d; lock e; lock f; ";
    private static final String SIX_THREADS = "thread a {} thread b {} thread c {} thread d {} thread e {} thread f {} ";

    public static void main(String[] args) {
        cells();
        rows();
        locksAndThreads();
        claims();
        locals();
        tokens();
        tokensAndRows();
        known();
        alone();
        toldAlready();
        wrongSort();
        wholes();
        written();
        leastPlace();
        leastNumber();
        firstThreeFirst();
        answers();
        faultIsKept();
        counts();
        Checks.end();
    }

    private static void cells() {
        Checks.says("24 CELLS (of a row as many as its WHOLE says) ... 3 ... of CELLS ... their NAME");
        StringBuilder b = new StringBuilder();
        for (int i = 0; i < 24; i++) {
            b.append(i % 3 == 0 ? "sure " : "").append("cell c").append(i).append("; ");
        }
        Checks.good(b.toString(), 0);
        Checks.fault(b + "cell @x;", 3);
        Checks.fault(b + "sure cell @x;", 3);
        Checks.fault(b + "cell @x[1];", 3);
        Checks.fault(b + "cell @c0;", 3);
        Checks.fault(b + "cell @x = $", 3);
        Checks.fault(b + "cell @;", 2);
        Checks.fault(b + "sure @;", 2);
        Checks.good(b + "lock l;", 0);
        Checks.due("24", Checks.compiled(b.toString()).count(0), 24);
        String of16 = "cell a[8]; sure cell b[8]; ";
        Checks.good(of16 + "cell c[8];", 0);
        Checks.good(of16 + "cell c[7]; cell d;", 0);
        Checks.good(of16 + "cell c[6]; cell d[2];", 0);
        Checks.fault(of16 + "cell c[8]; cell @d;", 3);
        Checks.fault(of16 + "cell c[7]; cell @d[2];", 3);
        Checks.fault(of16 + "cell c; cell @d[8];", 3);
        Checks.good(of16 + "cell c; cell d[7];", 0);
        Checks.fault(of16 + "cell c; cell @d[8] = 4;", 3);
        Checks.fault(of16 + "cell c; cell @d[8}", 3);
        Checks.fault(of16 + "cell c; cell @d[8", 3);
        Checks.fault(of16 + "cell c; cell d[@-8];", 2);
        Checks.fault(of16 + "cell c; cell d[@", 2);
        Checks.fault(of16 + "cell c; cell d[@8x];", 1);
    }

    private static void rows() {
        Checks.says("its WHOLE says, which is 1 .. 8 ... 6 a row's WHOLE that is not 1 .. 8 (it counts 1 then)");
        for (int n = 1; n <= 8; n++) {
            Checks.due("row of " + n, Checks.compiled("cell a[" + n + "];").count(0), n);
        }
        for (String n : new String[] {"0", "9", "10", "99", "00", "000000009", "999999999"}) {
            Checks.fault("cell a[@" + n + "];", 6);
            Checks.fault("sure cell a[@" + n + "] = 3;", 6);
            Checks.fault("cell a[8]; cell b[8]; cell c[7]; cell d[@" + n + "];", 6);
            Checks.fault("cell a[8]; cell b[8]; cell c[8]; cell @d[" + n + "];", 3);
            Checks.fault("cell a[8]; cell b[8]; cell c[7]; cell d[" + n + "]; cell @e;", 3);
        }
        Checks.good("cell a[01]; cell b[008];", 0);
        Checks.due("01 and 008", Checks.compiled("cell a[01]; cell b[008];").count(0), 9);
    }

    private static void locksAndThreads() {
        Checks.says("6 locks, 6 threads ... 3 ... of DEFS their first WORD, sure and idle counted in");
        Checks.good(SIX_LOCKS, 0);
        Checks.fault(SIX_LOCKS + "@lock g;", 3);
        Checks.fault(SIX_LOCKS + "@lock a;", 3);
        Checks.fault(SIX_LOCKS + "@lock", 3);
        Checks.fault(SIX_LOCKS + "@lock $", 3);
        Checks.good(SIX_LOCKS + "thread t { lock a { } }", 1);
        Checks.good(SIX_THREADS, 6);
        Checks.fault(SIX_THREADS + "@thread g {}", 3);
        Checks.fault(SIX_THREADS + "@idle thread g {}", 3);
        Checks.fault(SIX_THREADS + "@idle lock", 3);
        Checks.fault(SIX_THREADS + "@thread", 3);
        Checks.good(SIX_THREADS.replace("thread a", "idle thread a").replace("thread f", "idle thread f"), 6);
        Checks.good(SIX_LOCKS + SIX_THREADS.replace("a {", "g {").replace("b {", "h {").replace("c {", "i {").replace("d {", "j {")
                .replace("e {", "k {").replace("f {", "l {"), 6);
    }

    private static void claims() {
        Checks.says("4 always, 4 finally");
        Checks.good("always 1; ".repeat(4) + "finally 1; ".repeat(4), 0);
        Checks.fault("always 1; ".repeat(4) + "@always 1;", 3);
        Checks.fault("always 1; ".repeat(4) + "finally 1; ".repeat(4) + "@finally 1;", 3);
        Checks.fault("finally 1; ".repeat(4) + "@finally 1;", 3);
        Checks.fault("always 1; finally 1; ".repeat(4) + "@always", 3);
        Checks.good("finally 1; always 1; ".repeat(4) + "lock a;", 0);
    }

    private static void locals() {
        Checks.says("8 LOCALS in a thread (each let, also those behind their BLOCK)");
        String lets = "let a = 1; let b = 1; let c = 1; let d = 1; let e = 1; let f = 1; let g = 1; ";
        Checks.good("thread t { " + lets + "let h = 1; }", 1);
        Checks.fault("thread t { " + lets + "let h = 1; let @i = 1; }", 3);
        Checks.fault("thread t { " + lets + "let h = 1; let @a = 1; }", 3);
        Checks.fault("thread t { " + lets + "let h = 1; let @i", 3);
        Checks.fault("thread t { " + lets + "let h = 1; let @= 1;", 2);
        Checks.good("thread t { if 1 { " + lets + "} let h = 1; }", 1);
        Checks.fault("thread t { if 1 { " + lets + "} let h = 1; let @i = 1; }", 3);
        Checks.fault("thread t { if 1 { " + lets + "let h = 1; } else { let @a = 1; } }", 3);
        Checks.fault("thread t { while 0 { " + lets + "} lock l { let a = 1; } if 1 { let @a = 1; } }", 3);
        Checks.good("thread t { " + "if 1 { let a = 1; } ".repeat(8) + "}", 1);
        Checks.fault("thread t { " + "if 1 { let a = 1; } ".repeat(8) + "if 1 { let @a = 1; } }", 3);
        Checks.good("thread t { " + lets + "let h = 1; } thread u { " + lets + "let h = 1; }", 2);
        Checks.fault("thread t { " + lets + "let h = 1; } thread u { " + lets + "let h = 1; let @i = 1; }", 3);
        Checks.good("thread t { " + lets + "let h = 1; h = 2; a = 3; pause; }", 1);
    }

    private static void tokens() {
        Checks.says("At most: 700 TOKENS ... 3 what is more than told (at the first byte of the TOKEN that is too much)");
        String locks = "lock a; lock b; ";
        String pauses = "thread t { " + "pause; ".repeat(345) + "} ";
        // 6 + 3 + 690 + 1 = 700
        Checks.good(locks + pauses, 1);
        Checks.good(locks + pauses + "// and no more \n", 1);
        for (String more : new String[] {"cell", "lock", "thread", "sure", "idle", "always", "finally"}) {
            Checks.fault(locks + pauses + "@" + more, 3);
            Checks.fault(locks + pauses + "@" + more + " x", 3);
            Checks.fault(locks + pauses + "\n\n@" + more + " $", 3);
        }
        for (String wrong : new String[] {"x", "1", ";", "}", "end", "="}) {
            Checks.fault(locks + pauses + "@" + wrong, 2);
        }
        Checks.fault(locks + pauses + "@$", 1);
        Checks.fault(locks + pauses + "@1234567890", 1);
        // 699 of them
        Checks.fault(locks + pauses.replace("} ", "") + "@", 2);
        // the 701st wherever it stands
        String open = "lock a; lock b; thread t { " + "pause; ".repeat(345);
        Checks.fault(open + "pause@; }", 3);
        Checks.fault(open + "let @a = 1; }", 3);
        Checks.fault(open + "x @= 1; }", 3);
        Checks.fault(open + "x@[1] = 1; }", 3);
        Checks.fault(open + "take @a; }", 3);
        Checks.fault(open + "lock @a { }", 3);
        Checks.fault(open + "if @1 { }", 3);
        Checks.fault(open + "while @- 1 { }", 3);
        Checks.fault(open + "while @( 1 ) { }", 3);
        Checks.fault(open + "assert @self; }", 3);
        Checks.fault(open + "call @1, 1; }", 3);
        Checks.fault(open + "take @1; }", 2);
        String two = "lock a; thread t { " + "pause; ".repeat(346);
        // 3 + 3 + 692 = 698
        Checks.fault(two + "call 1@, 1; }", 3);
        Checks.fault(two + "let a @= 1; }", 3);
        Checks.fault(two + "if 1 @{ }", 3);
        Checks.fault(two + "if 1 @+ 1 { }", 3);
        Checks.fault(two + "lock a @{ }", 3);
        Checks.fault(two + "assert 1@; }", 3);
        Checks.fault(two + "assert (@1); }", 3);
        Checks.fault(two + "assert -@1; }", 3);
        Checks.fault(two + "take a@; }", 3);
        Checks.fault(two + "pause; @} lock b;", 3);
        Checks.fault(two + "a = @swap b, 1; }", 3);
        Checks.fault(two + "a[@1] = 1; }", 3);
        Checks.fault(two + "} always @1;", 3);
        Checks.fault(two + "} idle @thread b { }", 3);
        Checks.fault(two + "} sure @cell b;", 3);
        Checks.fault(two + "} cell @b;", 3);
        // 3 + 694 = 697
        String three = "thread t { " + "pause; ".repeat(347);
        Checks.fault(three + "let a = @1; }", 3);
        Checks.fault(three + "if 1 { @} }", 3);
        Checks.fault(three + "a = swap @b, 1; }", 3);
        Checks.fault(three + "a = b@[1]; }", 3);
        Checks.fault(three + "a[1@] = 1; }", 3);
        Checks.fault(three + "call 1, @1; }", 3);
        Checks.fault(three + "} cell b@;", 3);
        Checks.fault(three + "} always 1@;", 3);
        Checks.fault(three + "} always a@[0];", 3);
        Checks.fault(three + "} always a @+ 1;", 3);
        Checks.fault(three + "} thread b @{ }", 3);
        Checks.fault(three + "assert (1@); }", 3);
        Checks.fault(three + "assert a + @1; }", 3);
    }

    private static void tokensAndRows() {
        Checks.says("of a row by the WHOLE that stands behind it, though that be the 701st TOKEN (by a later one it counts 1)");
        // 18 tokens of cells, 23 CELLS
        String cells = "cell q[8]; cell r[8]; cell s[7]; ";
        // 18 + 3 + 672 + 1 = 694: cell a [ 2 are the 695th to 698th
        String with694 = cells + "thread t { " + "pause; ".repeat(336) + "} ";
        Checks.fault(with694 + "cell @a[2];", 3);
        Checks.good(with694 + "cell a[1];", 1);
        // 696: the WHOLE is the 700th
        String with696 = cells + "thread t { " + "pause; ".repeat(337) + "} ";
        Checks.fault(with696 + "cell @a[2];", 3);
        Checks.fault(with696 + "cell a[1@];", 3);
        // the WHOLE is the 701st
        Checks.fault(with696 + "sure cell @a[2];", 3);
        Checks.fault(with696 + "sure cell a[@1];", 3);
        Checks.fault(with696 + "sure cell a[@9];", 3);
        Checks.fault(with696 + "sure cell a[@];", 2);
        Checks.fault(with696 + "sure cell a[@$", 1);
        // the WHOLE is the 702nd: it counts 1
        String with697 = "cell q[8]; cell r[8] = -1; cell s[7]; thread t { " + "pause; ".repeat(336) + "} ";
        Checks.fault(with697 + "sure cell a@[2];", 3);
        Checks.fault(with697 + "sure cell a@[8];", 3);
        Checks.fault(with697 + "cell @a[2];", 3);
        Checks.fault(with697 + "cell a[@1];", 3);
        // 24 CELLS: the NAME is one too many in any case
        String full = "cell q[8]; cell r[8]; cell s[8]; thread t { " + "pause; ".repeat(337) + "} ";
        Checks.fault(full + "sure cell @a[1];", 3);
        Checks.fault(full + "sure cell @a;", 3);
    }

    private static void known() {
        Checks.says("A LOCAL is known from behind the ; of its let to the end of its BLOCK");
        Checks.fault("thread t { let a = @a; }", 5);
        Checks.fault("thread t { let a = @a + 1; }", 5);
        Checks.fault("thread t { let a = 1 + @a; }", 5);
        Checks.fault("thread t { assert @a; let a = 1; }", 5);
        Checks.good("thread t { let a = 1; assert a; }", 1);
        Checks.good("thread t { let a = 1; if a { a = 2; while a { a = 3; lock l { a = 4; } } } else { a = 5; } a = 6; } lock l;", 1);
        Checks.fault("thread t { if 1 { let a = 1; } @a = 2; }", 5);
        Checks.fault("thread t { if 1 { let a = 1; } else { @a = 2; } }", 5);
        Checks.fault("thread t { if 1 { let a = 1; } else if @a { } }", 5);
        Checks.fault("thread t { while @a { let a = 1; } }", 5);
        Checks.fault("thread t { lock l { let a = 1; } assert @a; } lock l;", 5);
        Checks.fault("thread t { let a = 1; } thread u { assert @a; }", 5);
        Checks.fault("thread t { let a = 1; } always @a;", 5);
        Checks.good("cell a = 3; thread t { if 1 { let a = 1; } a = 2; }", 1);
        ScheduleHouse x = Checks.begun("cell a = 3; thread t { if 1 { let a = 1; a = 7; } a = 2; }", 0);
        Checks.due("behind the BLOCK it is the cell", x.choice(0, 2), 1);
        x.go(0);
        Checks.due("behind the BLOCK it is the cell", x.cell(0), 2);
    }

    private static void alone() {
        Checks.says("a NAME alone is the LOCAL that is known and was told last, else a cell: as R alone it is READ, before = it is WRITTEN");
        ScheduleHouse x = Checks.begun("cell a = 3; cell b = 4; thread t { let b = a; let a = b; if 1 { let a = 9; a = a + 1; b = a; pause; } a = b; pause; }", 0);
        Checks.due("a is READ", x.choice(0, 2), 0);
        Checks.due("a is READ", x.choice(0, 3), 0);
        x.go(0);
        int[] want = {10, 3, 10};
        Checks.due("known", x.thread(0, 3), 3);
        for (int i = 0; i < 3; i++) {
            Checks.due("local " + i, x.local(0, i), want[i]);
        }
        x.go(0);
        Checks.due("a = b, of two LOCALS", x.local(0, 1), 10);
        Checks.due("the cell is as it was", x.cell(0), 3);
        Checks.says("in other E it is a LOCAL. Before [ and in swap, add, cas it is a cell. In always, finally it is a cell");
        Checks.fault("cell c; thread t { let a = @c + 1; }", 5);
        Checks.fault("cell c; thread t { let a = -@c; }", 5);
        Checks.fault("cell c; thread t { if @c { } }", 5);
        Checks.fault("cell c; thread t { while @c { } }", 5);
        Checks.fault("cell c; thread t { call 1, @c; }", 5);
        Checks.fault("cell c; thread t { back @c; }", 5);
        Checks.fault("cell c; cell r[2]; thread t { r[@c] = 1; }", 5);
        Checks.fault("cell c; cell r[2]; thread t { r[0] = @c; }", 5);
        Checks.fault("cell c; cell r[2]; thread t { let a = r[@c]; }", 5);
        Checks.fault("cell c; thread t { let a = add c, @c; }", 5);
        Checks.fault("cell c; thread t { let a = cas c, 1, @c; }", 5);
        Checks.good("cell c; thread t { let c = 1; let a = add c, c; } always c; finally c == 1;", 1);
        Checks.good("cell c[2]; thread t { let c = 1; let a = c[c]; c[c] = c; a = swap c[0], c; }", 1);
        Checks.fault("thread t { let c = 1; let a = swap @c, 1; }", 5);
        Checks.fault("thread t { let c = 1; let a = @c[0]; }", 5);
        Checks.fault("thread t { let c = 1; @c[0] = 1; }", 5);
    }

    private static void toldAlready() {
        Checks.says("4 a NAME that is told already (cells, locks, threads all together; a let in the BLOCK in which it is known)");
        String[] defs = {"cell X;", "sure cell X;", "cell X[2];", "lock X;", "thread X { }", "idle thread X { }"};
        for (String first : defs) {
            for (String second : defs) {
                Checks.fault(first.replace("X", "a") + " " + second.replace("X", "@a"), 4);
                Checks.good(first.replace("X", "a") + " " + second.replace("X", "b"), first.contains("thread") && second.contains("thread") ? 2
                        : first.contains("thread") || second.contains("thread") ? 1 : 0);
                Checks.fault(first.replace("X", "a") + " " + second.replace("X", "b") + " " + second.replace("X", "@a"), 4);
            }
            Checks.good(first.replace("X", "a") + " thread t { let a = 1; }", first.contains("thread") ? 2 : 1);
        }
        Checks.fault("thread t { let a = 1; let @a = 1; }", 4);
        Checks.fault("thread t { let a = 1; let b = 1; let @a = 1; }", 4);
        Checks.fault("thread t { if 1 { let a = 1; let @a = 1; } }", 4);
        Checks.fault("thread t { let a = 1; if 1 { } let @a = 1; }", 4);
        Checks.fault("thread t { let a = 1; if 1 { let a = 2; let @a = 3; } }", 4);
        Checks.good("thread t { let a = 1; if 1 { let a = 2; } }", 1);
        Checks.good("thread t { if 1 { let a = 2; } else { let a = 2; } while 0 { let a = 3; } let a = 4; }", 1);
        Checks.good("thread t { let t = 1; let u = 2; } thread u { let t = 1; }", 2);
        // its own first telling stands behind it in the text: the later one is the fault
        Checks.fault("thread t { take a; a = 1; start a; } lock a; cell @a; thread a { }", 4);
    }

    private static void wrongSort() {
        Checks.says("5 a NAME that means nothing of the sort that stands there (cells, locks, threads: told anywhere)");
        String defs = "cell c; cell r[2]; lock l; thread u { } ";
        for (String s : new String[] {"take", "give", "wait", "wake", "wakeall"}) {
            Checks.good(defs + "thread t { " + s + " l; }", 2);
            Checks.good("thread t { " + s + " l; } lock l;", 1);
            for (String other : new String[] {"c", "r", "u", "t", "x"}) {
                Checks.fault(defs + "thread t { let x = 1; " + s + " @" + other + "; }", 5);
            }
        }
        for (String other : new String[] {"c", "r", "u", "t", "x"}) {
            Checks.fault(defs + "thread t { let x = 1; lock @" + other + " { } }", 5);
        }
        for (String s : new String[] {"start", "join"}) {
            Checks.good(defs + "thread t { " + s + " u; " + s + " t; " + s + " z; } thread z { }", 3);
            for (String other : new String[] {"c", "r", "l", "x"}) {
                Checks.fault(defs + "thread t { let x = 1; " + s + " @" + other + "; }", 5);
            }
        }
        Checks.says("a row without [ ], another cell with it, too");
        for (String m : new String[] {"@r = 1;", "@c[0] = 1;", "let a = @r;", "let a = @c[0];", "let a = swap @r, 1;", "let a = swap @c[0], 1;",
            "let a = add @r, 1;", "let a = add @c[0], 1;", "let a = cas @r, 1, 1;", "let a = cas @c[0], 1, 1;", "@l = 1;", "@u = 1;", "@z = 1;", "@l[0] = 1;",
            "let a = @l;", "let a = @u;", "let a = @z;", "let a = @z[0];", "let a = swap @l, 1;", "let a = add @z, 1;", "let a = cas @z[0], 1, 1;"}) {
            Checks.fault(defs + "thread t { " + m + " }", 5);
        }
        Checks.good(defs + "thread t { c = 1; r[0] = 1; let a = c; let b = r[0]; a = swap c, 1; a = add r[1], 1; }", 2);
        for (String m : new String[] {"@r", "@c[0]", "1 + @r", "@l", "@u", "@z", "@z[0]", "@l[0]", "(@r)", "not @z"}) {
            Checks.fault(defs + "always " + m + ";", 5);
            Checks.fault(defs + "finally " + m + ";", 5);
        }
        Checks.good("always c + r[1]; finally c - r[0]; cell c; cell r[2];", 0);
        Checks.says("a LOCAL, a cell that is none, or a cell in an E, where a LOCAL has to be");
        for (String m : new String[] {"assert @c;", "assert @r;", "assert @z;", "assert @l;", "assert @u;", "assert 1 + @c;", "if @z { }", "let a = (@c);"}) {
            Checks.fault(defs + "thread t { " + m + " }", 5);
        }
    }

    private static void wholes() {
        Checks.says("6 ... a WHOLE in [ ] of always, finally that is not below its row's, call's WHOLE above 3 (at them)");
        for (int n = 1; n <= 8; n++) {
            for (String claim : new String[] {"always", "finally"}) {
                Checks.good("cell a[" + n + "]; " + claim + " a[" + (n - 1) + "] == a[0];", 0);
                Checks.fault("cell a[" + n + "]; " + claim + " a[0] == a[@" + n + "];", 6);
                Checks.fault(claim + " a[@" + (n + 1) + "]; cell a[" + n + "];", 6);
            }
        }
        Checks.fault("always a[@999999999]; cell a[8];", 6);
        Checks.fault("cell a[2]; cell b[8]; always b[7] + a[@2];", 6);
        Checks.fault("always a[0]; cell a[@9];", 6);
        Checks.fault("always a[@1]; cell a[9];", 6);
        Checks.fault("always a[@1]; cell a[0];", 6);
        for (int n = 0; n <= 3; n++) {
            Checks.good("thread t { call " + n + ", 1; }", 1);
        }
        for (String n : new String[] {"4", "5", "10", "999999999", "000000004"}) {
            Checks.fault("thread t { call @" + n + ", 1; }", 6);
        }
        Checks.good("thread t { call 003, 1; }", 1);
        // a thread's [ ] is judged when it runs
        Checks.good("cell a[2]; thread t { a[2] = 1; let b = a[99]; b = swap a[8], 1; }", 1);
    }

    private static void written() {
        Checks.says("7 what is WRITTEN to a cell is a READ, swap, add, cas (at its first TOKEN)");
        String defs = "cell c; cell d; cell r[2]; thread t { let x = 1; ";
        for (String m : new String[] {"c = @d;", "c = @c;", "c = @r[0];", "c = @swap d, 1;", "c = @add d, 1;", "c = @cas d, 1, 1;", "c = @swap c, 1;",
            "c = @add r[1], 1;", "c = @swap z, 1;", "c = @swap d[0], 1;", "c = @r[z];"}) {
            Checks.fault(defs + m + " }", 7);
        }
        Checks.good(defs + "c = 1; c = x; c = x + 1; c = (x); c = -x; c = self; r[0] = x; x = c; x = r[0]; x = swap c, x; x = x; }", 1);
        Checks.good("cell c; thread t { let c = 1; c = c; let d = c; c = swap c, 1; }", 1);
        Checks.fault("cell c; thread t { let d = 1; if 1 { let c = 2; c = add c, 1; } c = @add c, 1; }", 7);
        for (String m : new String[] {"c = @z;", "c = @r;", "c = @z[0];", "c = @d[0];", "c = (@d);", "c = @d + 1;", "c = -@d;", "@z = d;", "@r = d;", "@z = swap d, 1;"}) {
            Checks.fault(defs + m + " }", 5);
        }
    }

    private static void leastPlace() {
        Checks.says("Of these the one with the least place");
        Checks.fault("lock @1; lock $;", 2);
        Checks.fault("lock @$; lock 1;", 1);
        Checks.fault(SIX_LOCKS + "@lock g; $", 3);
        Checks.fault(SIX_LOCKS + "@$ lock g;", 1);
        Checks.fault(SIX_LOCKS + "@; lock g;", 2);
        Checks.fault(SIX_LOCKS + "@lock 1", 3);
        Checks.says("If there is none, of these the same");
        // 4 and 5, 6, 7 in each order
        Checks.fault("lock a; lock @a; thread t { take b; }", 4);
        Checks.fault("thread t { take @b; } lock a; lock a;", 5);
        Checks.fault("lock a; lock @a; cell c[0];", 4);
        Checks.fault("cell c[@0]; lock a; lock a;", 6);
        Checks.fault("thread t { call @4, b; }", 6);
        Checks.fault("thread t { assert @b; call 4, 1; }", 5);
        Checks.fault("cell c; thread t { c = @swap b, 1; }", 7);
        Checks.fault("cell c; thread t { @b = c; c = c; }", 5);
        Checks.fault("cell c; thread t { c = @c; call 9, 1; }", 7);
        Checks.fault("cell c; thread t { call @9, 1; c = c; }", 6);
        Checks.fault("cell c; thread t { c = @c; } lock c;", 7);
        Checks.fault("cell c; lock @c; thread t { c = c; }", 4);
        Checks.fault("thread t { let a = @b; let a = 1; }", 5);
        Checks.fault("thread t { let a = 1; let @a = b; }", 4);
        Checks.fault("always @b[9]; cell a[9];", 5);
        Checks.fault("always a[@9] + b; cell a[9];", 6);
    }

    private static void leastNumber() {
        Checks.says("of one place the least number");
        Checks.fault(SIX_LOCKS + "@lock1234567890 g;", 1);
        Checks.fault("thread t { " + "pause; ".repeat(348) + "} @$", 1);
        Checks.fault("thread t { " + "pause; ".repeat(348) + "} @]", 2);
        // 5 and 7 at one place
        Checks.fault("cell c; thread t { c = @q[0]; }", 5);
        Checks.fault("cell c; thread t { c = @c[0]; }", 5);
        Checks.fault("cell c; cell r[2]; thread t { c = @r; }", 5);
        Checks.fault("cell c; thread t { c = @q; }", 5);
        // a row's WHOLE and its NAME are two places
        Checks.fault("cell a; cell @a[9];", 4);
        Checks.fault("cell a[@9]; cell a;", 6);
    }

    private static void firstThreeFirst() {
        Checks.says("If there is none [of 1 to 3], of these");
        String four = "lock a; lock a; thread t { take b; call 9, 1; } cell c[0]; ";
        Checks.fault(four + "@$", 1);
        Checks.fault(four + "@1", 2);
        Checks.fault(four + "lock@", 2);
        Checks.fault(four + "lock d; lock e; lock f; lock g; @lock h;", 3);
        Checks.fault(four + "always " + "(".repeat(16) + "@1", 3);
        Checks.fault("lock a; lock @a; thread t { take b; call 9, 1; } cell c[0]; ", 4);
    }

    private static void answers() {
        Checks.says("how many threads it has; or the FAULT's number below 0, -1 to -7 (then nothing is compiled). No run, nothing tried");
        for (int many = 0; many <= 6; many++) {
            StringBuilder b = new StringBuilder("lock l; ");
            for (int t = 0; t < many; t++) {
                b.append(t % 2 == 0 ? "idle " : "").append("thread t").append(t).append(" { } ");
            }
            Checks.good(b.toString(), many);
        }
        String[] bad = {"$", "}", "always 1; always 1;", "lock l;", "thread v { take z; }", "cell d[0];", "thread v { c = c; }"};
        for (int k = 0; k < bad.length; k++) {
            ScheduleHouse x = Checks.compiled("cell c; lock l; thread t { c = 1; } always 1; always 1; always 1; finally 1; ");
            x.begin(0);
            x.attempt(0, 10);
            x.attempt(1, 10);
            Checks.feed(x, bad[k]);
            Checks.due("compile of " + bad[k], x.compile(), -1 - k);
            for (int what = 0; what < 5; what++) {
                Checks.due("nothing is compiled", x.count(what), 0);
            }
            Checks.noState("nothing is compiled", () -> x.begin(0));
            Checks.noState("nothing is compiled", () -> x.attempt(0, 1));
            Checks.noState("no run", x::choices);
            Checks.due("nothing tried", x.tried(0, 0), 0);
            Checks.due("the same again", x.compile(), -1 - k);
        }
        ScheduleHouse y = Checks.begun("cell c; thread t { c = 1; }", 0);
        y.go(0);
        y.attempt(0, 10);
        y.attempt(1, 10);
        Checks.due("compile anew", y.compile(), 1);
        Checks.noState("no run", y::choices);
        Checks.noState("no run", () -> y.again(0));
        Checks.due("nothing tried", y.tried(0, 0), 0);
        Checks.due("nothing tried", y.tried(1, 0), 0);
        Checks.due("nothing found", y.finding(0, 10), -1);
        Checks.due("alike", y.alike(), -1);
    }

    private static void faultIsKept() {
        Checks.says("Of the latest compile() (feed(), wipe() leave it): 0 the place of its FAULT, 1 the LINE of it; NONE without one");
        ScheduleHouse x = Checks.fed("\n\n  $");
        Checks.due("before compile()", x.fault(0), -1);
        x.compile();
        Checks.due("place", x.fault(0), 4);
        Checks.due("line", x.fault(1), 3);
        x.feed(1, 10);
        Checks.due("feed leaves it", x.fault(0), 4);
        x.wipe();
        Checks.due("wipe leaves it", x.fault(0), 4);
        Checks.due("wipe leaves it", x.fault(1), 3);
        Checks.feed(x, "lock a;");
        Checks.due("until compile()", x.fault(1), 3);
        x.compile();
        Checks.due("NONE", x.fault(0), -1);
        Checks.due("NONE", x.fault(1), -1);
        x.feed(1, '}');
        Checks.due("feed leaves NONE, too", x.fault(0), -1);
        x.compile();
        Checks.due("the end of one line", x.fault(0), 7);
        Checks.due("the first line", x.fault(1), 1);
        Checks.says("IndexOutOfBoundsException: another what");
        for (int what : new int[] {-1, 2, 3, Integer.MAX_VALUE, Integer.MIN_VALUE}) {
            Checks.badIndex("fault(" + what + ")", () -> x.fault(what));
            Checks.badIndex("fault(" + what + ")", () -> new ScheduleHouse().fault(what));
        }
        Checks.due("place still", x.fault(0), 7);
        ScheduleHouse first = Checks.fed("$");
        first.compile();
        Checks.due("place 0", first.fault(0), 0);
    }

    private static void counts() {
        Checks.says("How many were compiled: 0 CELLS, 1 locks, 2 threads, 3 always, 4 finally; 0 when nothing is");
        String full = "cell r[8]; cell s[8]; sure cell v[8]; lock k0; lock k1; lock k2; lock k3; lock k4; lock k5; " + SIX_THREADS
                + "always 1; always 1; always 1; always 1; finally 1; finally 1; finally 1; finally 1;";
        int[] most = {24, 6, 6, 4, 4};
        ScheduleHouse x = Checks.compiled(full);
        ScheduleHouse none = Checks.compiled("");
        for (int what = 0; what < 5; what++) {
            Checks.due("the most of " + what, x.count(what), most[what]);
            Checks.due("none of " + what, none.count(what), 0);
        }
        String[] one = {"cell x;", "lock x;", "thread x { }", "always 1;", "finally 1;"};
        for (int k = 0; k < 5; k++) {
            ScheduleHouse y = Checks.compiled(one[k]);
            for (int what = 0; what < 5; what++) {
                Checks.due("count(" + what + ") of " + one[k], y.count(what), what == k ? 1 : 0);
            }
        }
        ScheduleHouse fed = Checks.fed(full);
        Checks.due("not compiled yet", fed.count(0), 0);
        Checks.says("IndexOutOfBoundsException: another what");
        for (int what : new int[] {-1, 5, 6, Integer.MAX_VALUE, Integer.MIN_VALUE}) {
            Checks.badIndex("count(" + what + ")", () -> x.count(what));
            Checks.badIndex("count(" + what + ") of nothing", () -> new ScheduleHouse().count(what));
        }
        Checks.due("as before", x.count(0), 24);
    }
}
