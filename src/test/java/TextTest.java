/** Promises 1 to 6: the text, its tokens, its form, its limits and its faults. */
public final class TextTest {
    public static void main(String[] args) {
        newObject();
        feeding();
        wiping();
        tokens();
        form();
        nesting();
        limits();
        names();
        wholes();
        writes();
        counts();
        faultStays();
        Checks.end();
    }

    private static void newObject() {
        ScheduleHouse x = new ScheduleHouse();
        Checks.due("NONE", ScheduleHouse.NONE, -1);
        Checks.due("fault(0)", x.fault(0), -1);
        Checks.due("fault(1)", x.fault(1), -1);
        for (int what = 0; what < 5; what++) {
            Checks.due("count of nothing", x.count(what), 0);
        }
        Checks.noState("begin", () -> x.begin(0));
        Checks.noState("begin, way too", () -> x.begin(7));
        Checks.noState("choices", x::choices);
        Checks.noState("attempt", () -> x.attempt(0, 10));
        Checks.due("alike", x.alike(), -1);
        Checks.due("wipe", x.wipe(), 0);
        Checks.due("compile of nothing", x.compile(), 0);
        Checks.due("begin of nothing", x.begin(0), 0);
    }

    private static void feeding() {
        ScheduleHouse x = new ScheduleHouse();
        Checks.due("feed", x.feed(3, 0x636261L), 3);
        Checks.due("feed, more bytes than n", x.feed(1, 0x7f3b3b3b3bL), 4);
        Checks.badArgument("n 0", () -> x.feed(0, 0));
        Checks.badArgument("n 9", () -> x.feed(9, 0));
        Checks.badArgument("n below", () -> x.feed(Integer.MIN_VALUE, 0));
        Checks.due("abc;", x.compile(), -2);
        Checks.due("abc;", x.fault(0), 0);
        ScheduleHouse y = new ScheduleHouse();
        for (int i = 0; i < 374; i++) {
            y.feed(8, 0x2020202020202020L);
        }
        Checks.due("2995", y.feed(3, 0x202020L), 2995);
        Checks.badArgument("3001", () -> y.feed(6, 0x202020202020L));
        Checks.due("3000", y.feed(5, 0x2020202020L), 3000);
        Checks.due("blanks", y.compile(), 0);
        Checks.badArgument("3001", () -> y.feed(1, 32));
        Checks.due("still compiled", y.begin(1), 0);
        ScheduleHouse z = Checks.compiled("thread a { pause; }");
        z.begin(0);
        z.attempt(0, 100);
        Checks.due("tried", z.tried(0, 0), 2);
        z.feed(1, 32);
        Checks.noState("no run", z::choices);
        Checks.noState("not compiled", () -> z.begin(0));
        Checks.due("not tried", z.tried(0, 0), 0);
        Checks.due("none counted", z.count(2), 0);
        ScheduleHouse high = new ScheduleHouse();
        high.feed(8, 0xffffffffffffffffL);
        Checks.due("byte 255", high.compile(), -1);
    }

    private static void wiping() {
        ScheduleHouse x = Checks.compiled("cell a;");
        x.begin(0);
        Checks.due("wipe", x.wipe(), 7);
        Checks.due("count", x.count(0), 0);
        Checks.noState("no run", x::choices);
        Checks.noState("not compiled", () -> x.attempt(1, 1));
        Checks.due("wipe", x.wipe(), 0);
        Checks.feed(x, "lock b;");
        Checks.due("compile", x.compile(), 0);
        Checks.due("locks", x.count(1), 1);
        Checks.due("cells", x.count(0), 0);
    }

    private static void tokens() {
        Checks.fault("cell a@!;", 1);
        Checks.fault("cell @abcdefghijklm;", 1);
        Checks.good("cell abcdefghijkl;", 0);
        Checks.fault("cell a = @1234567890;", 1);
        Checks.good("cell a = 123456789;", 0);
        Checks.good("cell a = 000000001;", 0);
        Checks.fault("cell a = @12b;", 1);
        Checks.fault("cell @_a;", 1);
        Checks.fault("@\u00e4", 1);
        Checks.fault("@\u0000", 1);
        Checks.good("cell/**/a;".replace("/**/", "// remark ; cell\n") + "//", 0);
        Checks.good("cell\ta\r\n;// the end", 0);
        Checks.fault("cell a; @/", 2);
        Checks.fault("cell a; @/ /", 2);
        Checks.fault("thread t { let a = 1 @! = 2; }", 1);
        Checks.good("thread t { let a = 1 !=2; let b=a==1; let c=a<=b; let d=a>=b<c>1; }", 1);
        Checks.fault("thread t { let a = 1 @= = 2; }", 2);
        Checks.good("cell elses; cell If; cell ENDS; cell e1;", 0);
        Checks.fault("cell @else;", 2);
        for (String word : ("add always and assert back call cas cell else end fence finally give idle if join let lock "
                + "mod not or pause self start sure swap take thread wait wake wakeall while").split(" ")) {
            Checks.fault("cell @" + word + ";", 2);
            Checks.good("cell x" + word + ";", 0);
        }
    }

    private static void form() {
        Checks.good("", 0);
        Checks.fault("cell a; cell@", 2);
        Checks.fault("cell a \n  @", 2);
        Checks.fault("cell a\n = @;", 2);
        Checks.good("cell a = - 5; sure cell b[3] = 7; cell c[1];", 0);
        Checks.fault("cell a = - @- 5;", 2);
        Checks.fault("cell a[@b];", 2);
        Checks.fault("cell a[3@;", 2);
        Checks.fault("sure @lock a;", 2);
        Checks.fault("idle @cell a;", 2);
        Checks.fault("lock a@[2];", 2);
        Checks.fault("thread t @;", 2);
        Checks.fault("thread t { @", 2);
        Checks.fault("thread t { } @}", 2);
        Checks.fault("thread t { @else { } }", 2);
        Checks.fault("@end;", 2);
        Checks.fault("thread t { let a = 1 @}", 2);
        Checks.fault("thread t { let a @; }", 2);
        Checks.fault("thread t { let @1 = 1; }", 2);
        Checks.fault("thread t { a @+ 1; }", 2);
        Checks.fault("thread t { a[1] @; }", 2);
        Checks.fault("thread t { a[1] = b@[1]; }", 2);
        Checks.fault("thread t { a[1] = @swap b, 1; }", 2);
        Checks.fault("thread t { let a = b[1] @+ 1; }", 2);
        Checks.fault("thread t { let a = 1 + b@[1]; }", 2);
        Checks.fault("thread t { let a = swap @1, 1; }", 2);
        Checks.fault("thread t { let a = swap b @; }", 2);
        Checks.fault("thread t { let a = swap b, 1@, 2; }", 2);
        Checks.fault("thread t { let a = cas b, 1@; }", 2);
        Checks.fault("thread t { let a = (1 @; }", 2);
        Checks.fault("thread t { let a = 1 @); }", 2);
        Checks.fault("thread t { let a = (@); }", 2);
        Checks.fault("thread t { let a = 1 + @* 2; }", 2);
        Checks.fault("thread t { let a = 1 @not 2; }", 2);
        Checks.fault("thread t { if 1 @; }", 2);
        Checks.fault("thread t { if 1 { } else @while 1 { } }", 2);
        Checks.fault("thread t { if 1 { } else { } @else { } }", 2);
        Checks.fault("thread t { while @{ } }", 2);
        Checks.fault("thread t { lock a @; }", 2);
        Checks.fault("thread t { take a@, b; }", 2);
        Checks.fault("thread t { call @a, 1; }", 2);
        Checks.fault("thread t { call 1@; }", 2);
        Checks.fault("thread t { back @; }", 2);
        Checks.fault("thread t { fence @1; }", 2);
        Checks.fault("thread t { @cell a; }", 2);
        Checks.fault("always @self == 0;", 2);
        Checks.fault("always 1 + @self;", 2);
        Checks.fault("cell a[2]; always a[@a];", 2);
        Checks.fault("cell a[2]; always a[1@+ 1];", 2);
        Checks.fault("cell a[2]; finally a[1]@[1];", 2);
        Checks.good("cell a[2]; cell b; always a[1] + b == 0 and (a[0] - -b) < 3; finally not not b;", 0);
        Checks.good("thread t { if 1 { } else if 2 { } else if 3 { } else { } end; fence; pause; }", 1);
        Checks.good("thread t { let a = self; let b = (a); b = not - a mod 2 or 1 and 3 == 4 < 5; }", 1);
    }

    private static void nesting() {
        // E 2 within the S, then parentheses
        Checks.good("thread t { assert " + "(".repeat(14) + "1" + ")".repeat(14) + "; }", 1);
        Checks.fault("thread t { assert " + "(".repeat(15) + "@1" + ")".repeat(15) + "; }", 3);
        Checks.fault("thread t { assert " + "(".repeat(15) + "@)", 2);
        Checks.good("always " + "(".repeat(15) + "1" + ")".repeat(15) + ";", 0);
        Checks.fault("always " + "(".repeat(16) + "@1" + ")".repeat(16) + ";", 3);
        Checks.good("always " + "not ".repeat(15) + "1;", 0);
        Checks.fault("always " + "not ".repeat(15) + "@not 1;", 3);
        Checks.fault("always " + "- ".repeat(15) + "@- 1;", 3);
        Checks.fault("always " + "- ".repeat(15) + "(@1);", 3);
        Checks.good("always " + "- ".repeat(14) + "(1);", 0);
        Checks.good("always 1" + " + 1".repeat(100) + ";", 0);
        Checks.good("always 1" + " + (1".repeat(7) + ")".repeat(7) + ";", 0);
        Checks.good("always 1" + " + (1".repeat(7) + " + 1" + ")".repeat(7) + ";", 0);
        Checks.fault("always 1" + " + (1".repeat(7) + " + 1 * @1" + ")".repeat(7) + ";", 3);
        Checks.good("always 1" + " + (1".repeat(7) + " * 1 + 1" + ")".repeat(7) + ";", 0);
        Checks.fault("always 1" + " * (1".repeat(7) + " * (@1" + ")".repeat(8) + ";", 3);
        Checks.good("always 1 or 1 and 1 < 1 + 1 * " + "not ".repeat(10) + "1;", 0);
        Checks.fault("always 1 or 1 and 1 < 1 + 1 * " + "not ".repeat(10) + "@not 1;", 3);
        Checks.good("thread t { " + "lock a { ".repeat(16) + "}".repeat(17) + " lock a;", 1);
        Checks.fault("thread t { " + "lock a { ".repeat(16) + "@end; " + "}".repeat(17), 3);
        Checks.fault("thread t { " + "lock a { ".repeat(15) + "end; assert @1; " + "}".repeat(16), 3);
        Checks.good("thread t { " + "lock a { ".repeat(14) + "end; assert 1; " + "}".repeat(15) + " lock a;", 1);
        Checks.fault("thread t { " + "lock a { ".repeat(15) + "let b = c[@1]; " + "}".repeat(16), 3);
        Checks.fault("thread t { " + "lock a { ".repeat(15) + "let b = @c; " + "}".repeat(16), 3);
        Checks.fault("thread t { " + "lock a { ".repeat(15) + "let b = swap c, @1; " + "}".repeat(16), 3);
        Checks.fault("thread t { if 1 { }" + " else if 1 { }".repeat(14) + " else if @1 { } }", 3);
        Checks.good("thread t { if 1 { }" + " else if 1 { }".repeat(14) + " else { } }", 1);
        Checks.good("thread t { if 1 { }" + " else if 1 { }".repeat(14) + " else { end; } }", 1);
        Checks.good("thread t { " + "lock a { ".repeat(14) + "if 1 { end; } " + "}".repeat(15) + " lock a;", 1);
        Checks.fault("thread t { " + "lock a { ".repeat(14) + "if 1 { } else if @1 { }" + "}".repeat(15), 3);
        Checks.fault("thread t { " + "lock a { ".repeat(15) + "if @1 { } }", 3);
    }

    private static void limits() {
        Checks.good("cell a[8]; cell b[8]; cell c[8];", 0);
        Checks.fault("cell a[8]; cell b[8]; cell c[7]; cell d; cell @e;", 3);
        Checks.fault("cell a[8]; cell b[8]; cell c[7]; cell @d[2];", 3);
        Checks.fault("cell a[8]; cell b[8]; cell c[7]; cell @d[8 x", 3);
        Checks.fault("cell a[8]; cell b[8]; cell c[7]; cell d[@x", 2);
        Checks.fault("cell a[8]; cell b[8]; cell c[7]; cell d[@9];", 6);
        Checks.fault("cell a[8]; cell b[8]; cell c[8]; sure cell @d[9];", 3);
        Checks.fault("lock a; lock b; lock c; lock d; lock e; lock f; @lock g;", 3);
        Checks.good("lock a; lock b; lock c; lock d; lock e; lock f;", 0);
        String six = "thread a {} thread b {} idle thread c {} thread d {} thread e {} thread f {} ";
        Checks.good(six, 6);
        Checks.fault(six + "@thread g {}", 3);
        Checks.fault(six + "@idle thread g {}", 3);
        Checks.fault(six + "@idle idle", 3);
        Checks.fault("always 1; always 1; always 1; always 1; finally 1; @always 1;", 3);
        Checks.fault("finally 1; finally 1; finally 1; finally 1; always 1; @finally 1;", 3);
        Checks.good("finally 1; finally 1; finally 1; finally 1; always 1; always 1; always 1; always 1;", 0);
        String eight = "let a = 1; let b = 1; let c = 1; if 1 { let d = 1; let e = 1; } let f = 1; let g = 1; let h = 1;";
        Checks.good("thread t { " + eight + " } thread u { " + eight + " }", 2);
        Checks.fault("thread t { " + eight + " if 1 { let @i = 1; } }", 3);
        Checks.fault("thread t { " + eight + " let @1 = 1; }", 2);
        // 700 tokens: 3 for the thread's beginning, 2 each for pause, 1 for its end
        String pauses = "thread t { " + "pause; ".repeat(348);
        Checks.good(pauses + "}", 1);
        Checks.fault(pauses + "} @cell", 3);
        Checks.fault(pauses + "} @cell a;", 3);
        Checks.fault(pauses + "} @end", 2);
        Checks.fault(pauses + "} @?", 1);
        Checks.fault(pauses + "@", 2);
        Checks.fault(pauses + "pause@; }", 3);
        Checks.fault(pauses + "pause @pause", 2);
        tokenLimit();
    }

    /** What stands at the 700th token and behind it. */
    private static void tokenLimit() {
        // 3 + 2 * 346 + 1 = 696 tokens
        String of696 = "thread t { " + "pause; ".repeat(346) + "}";
        Checks.good(of696 + " lock a;", 1);
        Checks.good(of696 + " lock a; // pause pause", 1);
        Checks.fault(of696 + " cell a[8@];", 3);
        // 5 * 3 + 3 + 2 * 338 + 1 = 695 tokens
        String of695 = "always 1; always 1; always 1; always 1; finally 1; thread t { " + "pause; ".repeat(338) + "}";
        Checks.fault(of695 + " cell a[8]@;", 3);
        Checks.fault(of695 + " cell a[8]@,", 2);
        Checks.fault(of695 + " cell a[8]@$", 1);
        Checks.good(of695 + " cell a;", 1);
        // 18 + 3 + 2 * 337 + 1 = 696 tokens, so that the row's whole is the 701st: it counts still
        String with23 = "cell q[8]; cell r[8]; cell s[7]; thread t { " + "pause; ".repeat(337) + "} ";
        Checks.fault(with23 + "sure cell @a[8];", 3);
        Checks.fault(with23 + "sure cell a[@1];", 3);
        // 697 tokens, so that the row's whole is the 702nd: the row counts 1, and [ is too much
        String oneMore = "cell q[8]; cell r[8] = -1; cell s[7]; thread t { " + "pause; ".repeat(336) + "} ";
        Checks.fault(oneMore + "sure cell a@[8];", 3);
    }

    private static void names() {
        Checks.fault("cell a; cell @a;", 4);
        Checks.fault("cell a; lock @a;", 4);
        Checks.fault("lock a; thread @a {}", 4);
        Checks.fault("thread a {} cell @a[9];", 4);
        Checks.fault("lock a; thread t { a = 1; } cell @a;", 4);
        Checks.fault("thread t { take a; } cell a; lock @a;", 4);
        Checks.fault("thread t { let a = 1; let @a = 2; }", 4);
        Checks.good("thread t { let a = 1; if 1 { let a = 2; } a = 3; }", 1);
        Checks.good("thread t { if 1 { let a = 2; } let a = 3; }", 1);
        Checks.fault("thread t { if 1 { let a = 2; } let a = 3; if 1 { let a = 1; let @a = 2; } }", 4);
        Checks.good("cell a; lock b; thread t { let a = 1; let b = 1; let t = a; }", 1);
        Checks.good("thread t { let a = 1; } thread u { let a = 1; }", 2);
        Checks.fault("thread t { let a = @a; }", 5);
        Checks.good("cell a; thread t { let a = a; }", 1);
        Checks.fault("cell a; thread t { let a = @a + 1; }", 5);
        Checks.fault("cell a; thread t { let b = (@a); }", 5);
        Checks.fault("cell a; thread t { assert @a; }", 5);
        Checks.fault("cell a; thread t { if 1 { let b = 1; } assert @b; }", 5);
        Checks.fault("thread t { @a = 1; }", 5);
        Checks.fault("lock a; thread t { @a = 1; }", 5);
        Checks.fault("cell a[2]; thread t { @a = 1; }", 5);
        Checks.fault("cell a; thread t { @a[0] = 1; }", 5);
        Checks.fault("cell a[2]; thread t { let b = @a; }", 5);
        Checks.fault("cell a; thread t { let b = @a[0]; }", 5);
        Checks.fault("thread t { let a = 1; let b = @a[0]; }", 5);
        Checks.fault("thread t { let a = 1; let b = swap @a, 1; }", 5);
        Checks.good("cell a; thread t { let a = 1; let b = swap a, 1; }", 1);
        Checks.good("cell a[2]; thread t { let a = 1; let b = a[a]; a[a] = a; }", 1);
        Checks.fault("cell a[2]; thread t { let b = add @a, 1; }", 5);
        Checks.fault("cell a; thread t { let b = cas @a[0], 1, 2; }", 5);
        Checks.fault("cell a; thread t { take @a; }", 5);
        Checks.fault("thread t { start @u; }", 5);
        Checks.fault("lock l; thread t { join @l; }", 5);
        Checks.fault("thread t { lock @t { } }", 5);
        Checks.good("thread t { lock l { wait l; wake l; wakeall l; give l; take l; } start u; join u; } lock l; idle thread u {}", 2);
        Checks.fault("always @a == 1;", 5);
        Checks.good("always a == 1; cell a;", 0);
        Checks.fault("always @a[0] == 1; cell a;", 5);
        Checks.fault("always @a; cell a[2];", 5);
        Checks.fault("thread t { let a = 1; } finally @a;", 5);
    }

    private static void wholes() {
        Checks.fault("cell a[@0];", 6);
        Checks.fault("cell a[@9];", 6);
        Checks.fault("cell a[@999999999];", 6);
        Checks.fault("cell a[2]; always a[@2];", 6);
        Checks.good("cell a[2]; always a[1];", 0);
        Checks.fault("finally a[@1]; cell a[9];", 6);
        Checks.fault("thread t { call @4, 1; }", 6);
        Checks.good("thread t { call 3, 1; call 0, 1; }", 1);
        Checks.fault("cell a[@9]; cell a;", 6);
    }

    private static void writes() {
        Checks.fault("cell a; cell b; thread t { a = @b; }", 7);
        Checks.fault("cell a; thread t { a = @a; }", 7);
        Checks.fault("cell a; cell b[2]; thread t { a = @b[0]; }", 7);
        Checks.fault("cell a; cell b[2]; thread t { a = @b[c]; }", 7);
        Checks.fault("cell a; cell b; thread t { a = @b[0]; }", 5);
        Checks.fault("cell a; cell b; thread t { a = @swap b, 1; }", 7);
        Checks.fault("cell a; cell b; thread t { a = @add x, 1; }", 7);
        Checks.fault("cell a; cell b; thread t { a = @cas b, 1, 2; }", 7);
        Checks.fault("cell a; cell b; thread t { a = @c; }", 5);
        Checks.good("cell a; cell b; thread t { let b = 1; a = b; a = b + 1; }", 1);
        Checks.good("cell a; cell b; thread t { let c = 1; c = b; c = swap b, c; }", 1);
    }

    private static void counts() {
        ScheduleHouse x = Checks.compiled("cell a; cell b[5]; sure cell c[2]; lock l; lock m; thread t {} idle thread u {} thread v {}"
                + " always 1; finally 1; finally 1; finally 0;");
        int[] want = {8, 2, 3, 1, 3};
        for (int what = 0; what < 5; what++) {
            Checks.due("count(" + what + ")", x.count(what), want[what]);
        }
        Checks.badIndex("count(5)", () -> x.count(5));
        Checks.badIndex("count(-1)", () -> x.count(-1));
        Checks.badIndex("count(5) of nothing", () -> new ScheduleHouse().count(5));
        Checks.due("threads", x.compile(), 3);
        Checks.feed(x, "?");
        x.compile();
        Checks.due("count of a fault", x.count(0), 0);
    }

    private static void faultStays() {
        ScheduleHouse x = Checks.fed("cell a;\n\n cell 1;");
        Checks.due("compile", x.compile(), -2);
        x.feed(1, 'x');
        Checks.due("place behind feed", x.fault(0), 15);
        Checks.due("line behind feed", x.fault(1), 3);
        x.wipe();
        Checks.due("place behind wipe", x.fault(0), 15);
        Checks.due("line behind wipe", x.fault(1), 3);
        Checks.badIndex("fault(2)", () -> x.fault(2));
        Checks.badIndex("fault(-1)", () -> x.fault(-1));
        x.compile();
        Checks.due("place without", x.fault(0), -1);
        Checks.due("line without", x.fault(1), -1);
        ScheduleHouse y = Checks.compiled("thread t { pause; }");
        y.begin(0);
        y.attempt(0, 9);
        Checks.due("compile anew", y.compile(), 1);
        Checks.noState("no run behind compile", y::choices);
        Checks.due("not tried behind compile", y.tried(0, 0), 0);
    }
}
