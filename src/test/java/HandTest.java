/** Promises 1 to 30, one after the other: walks through small texts whose every answer was worked out by hand. */
public final class HandTest {
    private static final int NONE = ScheduleHouse.NONE;

    /** Two threads that both read before they write: one of the two sums is lost. */
    private static final String LOST = "cell c;\nthread a { let x = c; c = x + 1; }\nthread b { let x = c; c = x + 1; }\nfinally c == 2;\n";

    /** Two threads that take two locks the other way round. */
    private static final String CROSSED = "lock l; lock m; cell c; "
            + "thread a { lock l { lock m { c = 1; } } } thread b { lock m { lock l { c = 2; } } }";

    /** Two that wait, one that wakes; z sleeps until j starts it. */
    private static final String WAITING = "lock l; cell n; sure cell s;\n"
            + "thread w { lock l { wait l; n = 1; } }\n"
            + "thread v { take l; wait l; n = 2; give l; }\n"
            + "thread k { lock l { wake l; } s = 5; }\n"
            + "idle thread z { pause; }\n"
            + "thread j { start z; join w; let q = s; }\n";

    private HandTest() {
    }

    public static void main(String[] args) {
        newObject();
        feeding();
        wiping();
        faults();
        counting();
        beginningAndChoosing();
        waitingRun();
        lateRun();
        drawing();
        fourHundred();
        localsOfAThread();
        failures();
        orderOfWaiting();
        racesOfLateWrites();
        histories();
        pendingCalls();
        tooManyCalls();
        lostSum();
        lostSumLate();
        partly();
        crossedLocks();
        lateOutcomes();
        farFindings();
        Checks.end();
    }

    private static void row(String what, int[] got, int... want) {
        Checks.due(what + ": how many", got.length, want.length);
        for (int i = 0; i < Math.min(got.length, want.length); i++) {
            Checks.due(what + " (" + i + ")", got[i], want[i]);
        }
    }

    private static int[] choice(ScheduleHouse x, int i) {
        return new int[] {x.choice(i, 0), x.choice(i, 1), x.choice(i, 2), x.choice(i, 3), x.choice(i, 4)};
    }

    private static int[] act(ScheduleHouse x, int a) {
        return new int[] {x.act(a, 0), x.act(a, 1), x.act(a, 2), x.act(a, 3), x.act(a, 4)};
    }

    private static int[] lock(ScheduleHouse x, int l) {
        return new int[] {x.lock(l, 0), x.lock(l, 1), x.lock(l, 2)};
    }

    private static int[] thread(ScheduleHouse x, int t) {
        return new int[] {x.thread(t, 0), x.thread(t, 1), x.thread(t, 2), x.thread(t, 3), x.thread(t, 4)};
    }

    private static int[] tried(ScheduleHouse x, int way) {
        return new int[] {x.tried(way, 0), x.tried(way, 1), x.tried(way, 2), x.tried(way, 3), x.tried(way, 4), x.tried(way, 5)};
    }

    private static int[] findings(ScheduleHouse x, int way) {
        int[] all = new int[11];
        for (int f = 0; f < 11; f++) {
            all[f] = x.finding(way, f);
        }
        return all;
    }

    private static void newObject() {
        Checks.says("Promise 1: An empty text, nothing compiled");
        ScheduleHouse x = new ScheduleHouse();
        Checks.due("wipe()", x.wipe(), 0);
        Checks.due("fault(0)", x.fault(0), NONE);
        Checks.due("fault(1)", x.fault(1), NONE);
        Checks.due("count(2)", x.count(2), 0);
        Checks.due("alike()", x.alike(), NONE);
        Checks.due("ring(1)", x.ring(1), 0);
        Checks.noState("begin(0)", () -> x.begin(0));
        Checks.noState("attempt(0, 1)", () -> x.attempt(0, 1));
        Checks.noState("choices()", () -> x.choices());
        Checks.noState("show(0, 0)", () -> x.show(0, 0));
        Checks.badIndex("common(0, 0)", () -> x.common(0, 0));
        // any number of DEFS: none is a text, too; its one state is over and has an empty row of cells
        Checks.due("compile()", x.compile(), 0);
        Checks.due("begin(1)", x.begin(1), 0);
        Checks.due("run(3)", x.run(3), 1);
        Checks.due("run(4)", x.run(4), 0);
        Checks.due("attempt(0, 1)", x.attempt(0, 1), 1);
        row("tried(0, ..)", tried(x, 0), 1, 0, 1, 1, 0, 0);
    }

    private static void feeding() {
        Checks.says("Promise 2: The n lowest bytes of a long, the lowest first, come behind THE TEXT");
        ScheduleHouse x = new ScheduleHouse();
        // c e l l are 63 65 6c 6c; what stands above the n lowest bytes is left out
        Checks.due("feed(4, ..)", x.feed(4, 0x7f7f7f7f6c6c6563L), 4);
        Checks.due("feed(2, ..)", x.feed(2, 0x7820L), 6);
        Checks.due("feed(1, ..)", x.feed(1, -256L + 0x3b), 7);
        Checks.due("compile()", x.compile(), 0);
        Checks.due("count(0)", x.count(0), 1);
        Checks.due("begin(0)", x.begin(0), 0);
        Checks.badArgument("feed(0, 32)", () -> x.feed(0, 32));
        Checks.badArgument("feed(9, 32)", () -> x.feed(9, 32));
        Checks.due("a refused feed leaves what was compiled", x.count(0), 1);
        Checks.due("and the run", x.choices(), 0);
        Checks.due("feed(8, blanks)", x.feed(8, 0x2020202020202020L), 15);
        Checks.due("nothing is compiled then", x.count(0), 0);
        Checks.noState("no run then", () -> x.choices());
        for (int k = 0; k < 373; k++) {
            x.feed(8, 0x2020202020202020L);
        }
        // 15 + 373 * 8 = 2999
        Checks.badArgument("feed(2, ..) behind 2999", () -> x.feed(2, 0x2020));
        Checks.due("feed(1, ..) behind 2999", x.feed(1, 0x20), 3000);
        Checks.badArgument("feed(1, ..) behind 3000", () -> x.feed(1, 0x20));
        Checks.due("compile() of 3000 bytes", x.compile(), 0);
    }

    private static void wiping() {
        Checks.says("Promise 3: THE TEXT is empty then, as behind feed() nothing is compiled: how many bytes it had");
        ScheduleHouse x = Checks.compiled(LOST);
        x.begin(0);
        x.attempt(0, 100);
        Checks.due("wipe()", x.wipe(), LOST.length());
        Checks.due("wipe() again", x.wipe(), 0);
        Checks.due("count(2)", x.count(2), 0);
        Checks.due("tried(0, 0)", x.tried(0, 0), 0);
        Checks.noState("run(0)", () -> x.run(0));
    }

    private static void faults() {
        Checks.says("Promises 4 and 5: the FAULT's number below 0; the place of its FAULT, the LINE of it");
        Checks.fault("cell c;\ncell @$;", 1);
        Checks.fault("cell c;\n\ncell @= 1;", 2);
        Checks.fault("thread t {\n pause;\n// not closed }\n@", 2);
        Checks.fault("lock a; lock b; lock c; lock d; lock e; lock f;\n@lock g;", 3);
        Checks.fault("cell a[8]; cell b[8]; cell c[7]; cell @d[2];", 3);
        Checks.fault("cell a;\nlock @a;", 4);
        Checks.fault("thread t { let a = 1; let @a = 2; }", 4);
        Checks.fault("cell c;\nthread t {\n let a = 1 + @c; }", 5);
        Checks.fault("cell c[@9];", 6);
        Checks.fault("cell c[2]; always c[@2];", 6);
        Checks.fault("thread t { call @4, 1; }", 6);
        Checks.fault("cell c; cell d; thread t { c = @d; }", 7);
        Checks.fault("cell c; thread t { c = @add c, 1; }", 7);
        // one of the first three counts before all others, wherever it stands
        Checks.fault("cell a; cell a; cell b; @}", 2);
        ScheduleHouse x = Checks.fed("cell c\n;;");
        Checks.due("compile()", x.compile(), -2);
        x.feed(1, 10);
        x.wipe();
        Checks.due("feed(), wipe() leave the place", x.fault(0), 8);
        Checks.due("feed(), wipe() leave the LINE", x.fault(1), 2);
        Checks.due("compile() of nothing", x.compile(), 0);
        Checks.due("then there is none", x.fault(0), NONE);
        Checks.badIndex("fault(2)", () -> x.fault(2));
    }

    private static void counting() {
        Checks.says("Promise 6: How many were compiled");
        ScheduleHouse x = Checks.fed("cell a; sure cell r[5] = -2; lock l; lock m; lock n; thread t { } idle thread u { } "
                + "always 1; finally a; finally r[4]; finally 2; finally 3;");
        Checks.due("compile()", x.compile(), 2);
        row("count(..)", new int[] {x.count(0), x.count(1), x.count(2), x.count(3), x.count(4)}, 6, 3, 2, 1, 4);
        x.begin(0);
        // all cells of a row have its END
        row("cell(..)", new int[] {x.cell(0), x.cell(1), x.cell(5)}, 0, -2, -2);
        Checks.badIndex("count(5)", () -> x.count(5));
        Checks.badIndex("cell(6)", () -> x.cell(6));
    }

    private static void beginningAndChoosing() {
        Checks.says("Promises 7 to 9: A RUN BEGINS: how many CHOICES there are, and what they are");
        ScheduleHouse x = Checks.compiled(WAITING);
        Checks.due("begin(0)", x.begin(0), 4);
        Checks.due("choices()", x.choices(), 4);
        row("w: TAKE of l", choice(x, 0), 0, 0, 5, 0, NONE);
        row("v: TAKE of l", choice(x, 1), 1, 0, 5, 0, NONE);
        row("k: TAKE of l", choice(x, 2), 2, 0, 5, 0, NONE);
        row("j: START of z", choice(x, 3), 4, 0, 9, 3, NONE);
        row("z is ASLEEP", thread(x, 3), 0, 0, 0, 0, 0);
        row("j is GOING, its START stands in LINE 6", thread(x, 4), 1, 0, 0, 0, 6);
        Checks.badIndex("choice(4, 0)", () -> x.choice(4, 0));
        Checks.badIndex("choice(0, 5)", () -> x.choice(0, 5));
        Checks.badArgument("begin(2)", () -> x.begin(2));
        Checks.badArgument("begin(-1)", () -> x.begin(-1));
        Checks.due("begin(1)", x.begin(1), 4);
        Checks.due("run(0)", x.run(0), 1);
    }

    /** Up to where two WAIT, and k, which holds the lock, has to choose whom it wakes. */
    private static ScheduleHouse twoThatWait() {
        ScheduleHouse x = Checks.begun(WAITING, 0);
        Checks.due("w takes: w may wait, j start", x.go(0), 2);
        row("w holds l once", lock(x, 0), 0, 1, 0);
        Checks.due("w waits: v, k may take, j start", x.go(0), 3);
        row("l is free, one waits", lock(x, 0), NONE, 0, 1);
        row("w goes on with its RETAKE, whose wait stands in LINE 2", thread(x, 0), 1, 0, 0, 0, 2);
        Checks.due("v takes", x.go(0), 2);
        Checks.due("v waits: k may take, j start", x.go(0), 2);
        Checks.due("k takes: two wakes, j's start", x.go(0), 3);
        row("two wait, k holds", lock(x, 0), 2, 1, 2);
        return x;
    }

    private static void waitingRun() {
        Checks.says("Promises 10, 12, 13, 16, 17: CHOICE i is done: how many there are then");
        ScheduleHouse x = twoThatWait();
        row("k wakes w", choice(x, 0), 2, 0, 8, 0, 0);
        row("k wakes v", choice(x, 1), 2, 0, 8, 0, 1);
        Checks.due("k wakes v: k may give, j start", x.go(1), 2);
        row("w alone waits, not woken yet", lock(x, 0), 2, 1, 1);
        Checks.due("k gives: v may retake, k write s, j start", x.go(0), 3);
        row("v: RETAKE of l", choice(x, 0), 1, 0, 15, 0, NONE);
        row("k: WRITE of s", choice(x, 1), 2, 0, 1, 1, NONE);
        Checks.due("v retakes", x.go(0), 3);
        row("v holds l", lock(x, 0), 1, 1, 1);
        Checks.due("v writes n", x.go(0), 3);
        Checks.due("cell(0)", x.cell(0), 2);
        Checks.due("v gives and has ENDED", x.go(0), 2);
        row("v", thread(x, 1), 2, 0, 0, 0, 0);
        Checks.due("k writes s", x.go(0), 1);
        Checks.due("j starts z; w has not ENDED: no JOIN", x.go(0), 1);
        Checks.due("z pauses", x.go(0), 0);
        // w was never woken, and j waits for its end
        row("run(..)", new int[] {x.run(0), x.run(1), x.run(2), x.run(3), x.run(4), x.run(5), x.run(6), x.run(7)},
                0, 13, 13, 1, 1, 0, 0, 0);
        Checks.badIndex("go(0) of a run that is over", () -> x.go(0));
        Checks.badArgument("again(14)", () -> x.again(14));
        Checks.due("again(5)", x.again(5), 3);
        Checks.due("run(1)", x.run(1), 5);
        Checks.badArgument("again(6): just 5 were done", () -> x.again(6));
        Checks.due("now k wakes w", x.go(0), 2);
        Checks.due("k gives: w may retake, k write s, j start", x.go(0), 3);
        row("w: RETAKE of l", choice(x, 0), 0, 0, 15, 0, NONE);
        Checks.due("again(0)", x.again(0), 4);
        Checks.due("run(2)", x.run(2), 0);
    }

    private static void orderOfWaiting() {
        Checks.says("Promise 20: Whether ACT a HAPPENS BEFORE ACT b");
        ScheduleHouse x = twoThatWait();
        int[] chosen = {1, 0, 0, 0, 0, 0, 0, 0};
        for (int i : chosen) {
            x.go(i);
        }
        // w: 0 TAKE 1 WAIT; v: 2 TAKE 3 WAIT 7 RETAKE 8 WRITE 9 GIVE; k: 4 TAKE 5 WAKE 6 GIVE 10 WRITE; j: 11 START; z: 12 PAUSE
        Checks.due("run(2)", x.run(2), 13);
        int[][] are = {{0, 1}, {1, 2}, {0, 2}, {1, 4}, {3, 4}, {5, 7}, {6, 7}, {0, 7}, {6, 9}, {5, 10}, {11, 12}};
        int[][] areNot = {{1, 0}, {7, 10}, {9, 10}, {8, 10}, {10, 11}, {0, 11}, {9, 12}, {3, 3}, {12, 11}};
        for (int[] p : are) {
            Checks.due("before(" + p[0] + ", " + p[1] + ")", x.before(p[0], p[1]), true);
        }
        for (int[] p : areNot) {
            Checks.due("before(" + p[0] + ", " + p[1] + ")", x.before(p[0], p[1]), false);
        }
        Checks.badIndex("before(0, 13)", () -> x.before(0, 13));
        Checks.says("Promise 19: Of ACT a");
        row("act 5, the WAKE", act(x, 5), 2, 8, 0, 0, 0);
        row("act 7, the RETAKE", act(x, 7), 1, 15, 0, 0, 0);
        row("act 8, the WRITE", act(x, 8), 1, 1, 0, 0, 2);
        row("act 11, the START", act(x, 11), 4, 9, 3, 0, 0);
        row("act 12, the PAUSE", act(x, 12), 3, 12, NONE, 0, 0);
    }

    private static ScheduleHouse withThreeLate() {
        ScheduleHouse x = Checks.begun("cell x; cell y; thread t { x = 1; y = 2; x = 3; let a = x; fence; } "
                + "thread u { let b = x; let d = y; }", 1);
        Checks.due("x = 1 is LATE: y's write, it, u's read", x.go(0), 3);
        Checks.due("y = 2 is LATE", x.go(0), 4);
        Checks.due("x = 3 is LATE, but may not come before x = 1", x.go(0), 4);
        return x;
    }

    private static void lateRun() {
        Checks.says("Promises 13 to 15: LATE ones that have not come; what came to a CELL; what a thread would see");
        ScheduleHouse x = withThreeLate();
        row("cells and what is seen", new int[] {x.cell(0), x.cell(1), x.seen(0, 0), x.seen(0, 1), x.seen(1, 0), x.seen(1, 1)},
                0, 0, 3, 2, 0, 0);
        row("t", thread(x, 0), 1, 0, 3, 0, 1);
        Checks.due("t reads x: then its FENCE can not be done", x.go(0), 3);
        row("LATE x", choice(x, 0), 0, 1, 1, 0, NONE);
        row("LATE y", choice(x, 1), 0, 1, 1, 1, NONE);
        row("READ of x by u", choice(x, 2), 1, 0, 0, 0, NONE);
        Checks.due("y comes", x.go(1), 2);
        row("run(..)", new int[] {x.run(1), x.run(2), x.run(7), x.cell(1)}, 5, 4, 2, 2);
        Checks.due("u reads x", x.go(1), 2);
        Checks.due("u reads y", x.go(1), 1);
        Checks.due("x = 1 comes", x.go(0), 1);
        Checks.due("cell(0)", x.cell(0), 1);
        Checks.due("x = 3 comes: the FENCE can be done", x.go(0), 1);
        Checks.due("choice(0, 2)", x.choice(0, 2), 11);
        Checks.due("the FENCE", x.go(0), 0);
        row("run(..)", new int[] {x.run(1), x.run(2), x.run(3), x.run(4), x.run(7), x.cell(0)}, 10, 7, 1, 0, 0, 3);
        row("t read its own", act(x, 3), 0, 0, 0, 3, 0);
        row("u read what had come", act(x, 4), 1, 0, 0, 0, 0);
        row("u read what had come", act(x, 5), 1, 0, 1, 2, 0);
        Checks.badIndex("seen(2, 0)", () -> x.seen(2, 0));
        Checks.badIndex("seen(0, 2)", () -> x.seen(0, 2));
    }

    private static void racesOfLateWrites() {
        Checks.says("Promise 21: RACE i of the run, by its later ACT, then by its earlier one");
        ScheduleHouse x = withThreeLate();
        int[] chosen = {0, 1, 1, 1};
        for (int i : chosen) {
            x.go(i);
        }
        // t: 0 WRITE x, 1 WRITE y, 2 WRITE x, 3 READ x; u: 4 READ x, 5 READ y
        Checks.due("run(5)", x.run(5), 3);
        row("race(.., 0)", new int[] {x.race(0, 0), x.race(1, 0), x.race(2, 0)}, 0, 2, 1);
        row("race(.., 1)", new int[] {x.race(0, 1), x.race(1, 1), x.race(2, 1)}, 4, 4, 5);
        Checks.badIndex("race(3, 0)", () -> x.race(3, 0));
        Checks.badIndex("race(0, 2)", () -> x.race(0, 2));
    }

    private static void drawing() {
        Checks.says("Promise 11: each is number D modulo how many there are");
        // the seed 1 gives D = 16838, 5758, 10113 (the example of the C standard's rand has the same numbers)
        ScheduleHouse x = Checks.begun("thread a { pause; pause; } thread b { pause; pause; } thread c { pause; pause; }", 0);
        Checks.due("draw(1, 3)", x.draw(1, 3), 3);
        // of 3: 16838 mod 3 = 2, 5758 mod 3 = 1, 10113 mod 3 = 0
        row("threads", new int[] {x.act(0, 0), x.act(1, 0), x.act(2, 0)}, 2, 1, 0);
        Checks.due("draw(1, 400): as long as there is one", x.draw(1, 400), 3);
        // of 3: 2; of 2: 5758 mod 2 = 0; of 1: 0
        row("threads", new int[] {x.act(3, 0), x.act(4, 0), x.act(5, 0)}, 2, 0, 1);
        Checks.due("draw(1, 1) of a run that is over", x.draw(1, 1), 0);
        Checks.due("draw(1, 0)", x.draw(1, 0), 0);
        Checks.badArgument("draw(1, 401)", () -> x.draw(1, 401));
        Checks.badArgument("draw(1, -1)", () -> x.draw(1, -1));
    }

    private static void fourHundred() {
        Checks.says("At most 400 CHOICES");
        ScheduleHouse x = Checks.begun("thread t { while 1 { pause; } }", 1);
        Checks.due("draw(9, 399)", x.draw(9, 399), 399);
        Checks.due("go(0), the 400th", x.go(0), 1);
        Checks.noState("go(0)", () -> x.go(0));
        Checks.noState("go(7)", () -> x.go(7));
        Checks.due("draw(9, 400)", x.draw(9, 400), 0);
        row("run(..)", new int[] {x.run(1), x.run(2), x.run(3), x.run(4)}, 400, 400, 0, 0);
        Checks.due("again(400)", x.again(400), 1);
        Checks.due("again(399)", x.again(399), 1);
        Checks.due("go(0)", x.go(0), 1);
    }

    private static void localsOfAThread() {
        Checks.says("Promises 17 and 18: LOCALS that are known; the value of a thread's LOCAL i");
        ScheduleHouse x = Checks.begun("cell c = 7;\nthread t {\n let a = c;\n if a > 5 {\n let b = a * 2;\n c = b; }\n"
                + " let d = a - 1;\n pause;\n assert d == 0; }", 0);
        row("before the READ none is known", thread(x, 0), 1, 0, 0, 0, 3);
        Checks.badIndex("local(0, 0)", () -> x.local(0, 0));
        x.go(0);
        row("a and b are known at the WRITE", thread(x, 0), 1, 0, 0, 2, 6);
        row("local(0, ..)", new int[] {x.local(0, 0), x.local(0, 1)}, 7, 14);
        x.go(0);
        row("a and d are known at the PAUSE", thread(x, 0), 1, 0, 0, 2, 8);
        row("local(0, ..)", new int[] {x.local(0, 0), x.local(0, 1)}, 7, 6);
        row("the WRITE", act(x, 1), 0, 1, 0, 0, 14);
        Checks.due("the assert fails", x.go(0), 0);
        row("FAILED with 5", thread(x, 0), 3, 5, 0, 2, 0);
        row("local(0, ..)", new int[] {x.local(0, 0), x.local(0, 1)}, 7, 6);
        row("over, not stuck", new int[] {x.run(3), x.run(4)}, 1, 0);
        Checks.badIndex("local(0, 2)", () -> x.local(0, 2));
        Checks.badIndex("local(1, 0)", () -> x.local(1, 0));
    }

    private static void failsBehind(String text, int way, int choices, int number) {
        ScheduleHouse x = Checks.begun(text, way);
        for (int k = 0; k < choices; k++) {
            x.go(0);
        }
        Checks.due("thread(0, 0) of " + text, x.thread(0, 0), 3);
        Checks.due("thread(0, 1) of " + text, x.thread(0, 1), number);
        Checks.due("run(2) of " + text, x.run(2), choices);
    }

    private static void failures() {
        Checks.says("FAILED (with a number ..)");
        failsBehind("thread t { let a = 1 / 0; }", 0, 0, 1);
        failsBehind("cell c; thread t { c = 3 mod 0; }", 0, 1, 1);
        failsBehind("cell r[2]; thread t { r[2] = 1; }", 0, 1, 2);
        failsBehind("cell r[2]; thread t { r[0 - 1] = 1 / 0; }", 0, 1, 2);
        failsBehind("cell r[2]; thread t { let a = r[1 / 0]; }", 0, 1, 1);
        failsBehind("lock l; thread t { take l; give l; give l; }", 0, 3, 3);
        failsBehind("lock l; thread t { wait l; }", 0, 1, 4);
        failsBehind("lock l; thread t { wakeall l; }", 1, 1, 4);
        failsBehind("thread t { pause; assert 0; }", 0, 1, 5);
        failsBehind("thread t { while 1 { } }", 0, 0, 6);
        failsBehind("thread t { start t; }", 0, 1, 7);
        failsBehind("thread t { back 1; }", 0, 1, 8);
        failsBehind("thread t { call 0, 1; call 0, 1; }", 0, 2, 8);
        failsBehind("cell c; thread t { let i = 0; while i < 9 { i = i + 1; c = i; } }", 1, 9, 9);
        // 1 let, then trials and sums in turn: the 300th is a trial, the 301st would be the 150th sum
        ScheduleHouse x = Checks.begun("thread t { let i = 0; while 1 { i = i + 1; } }", 0);
        Checks.due("local(0, 0)", x.local(0, 0), 149);
        ScheduleHouse y = Checks.begun("cell r[2]; thread t { let a = r[5]; }", 0);
        row("NONE where its [ ] FAILS", choice(y, 0), 0, 0, 0, NONE, NONE);
        y.go(0);
        row("it is an ACT all the same", act(y, 0), 0, 0, NONE, 0, 0);
    }

    private static int[] linear(ScheduleHouse x) {
        return new int[] {x.linear(0), x.linear(1), x.linear(2), x.linear(3)};
    }

    private static void histories() {
        Checks.says("Promise 22: Whether the run's HISTORY is LINEAR for a structure");
        ScheduleHouse x = Checks.begun("thread a { call 0, 1; back 0; call 0, 2; back 0; } thread b { call 1, 0; back 2; }", 0);
        row("no calls", linear(x), 1, 1, 1, 1);
        for (int k = 0; k < 6; k++) {
            x.go(0);
        }
        // put 1, put 2, take: 2. A cell holds 2, a stack gives 2; a queue would give 1 (all 6 are needed to see it);
        // a set would have answered 1 to the first put (the first 2 are enough)
        row("one behind the other", linear(x), 1, 1, -8, -4);
        Checks.due("run(6)", x.run(6), 3);
        ScheduleHouse y = Checks.begun("thread a { call 0, 1; back 0; } thread b { call 0, 2; back 0; } "
                + "thread c { call 1, 0; back 2; call 1, 0; back 1; }", 0);
        // both puts overlap: 2 may have been put first. A queue gives 2, then 1; a stack, too, if 1 was put first
        int[] chosen = {0, 1, 0, 0, 0, 0, 0, 0};
        for (int i : chosen) {
            y.go(i);
        }
        Checks.due("run(6)", y.run(6), 4);
        row("overlapping", linear(y), -10, 1, 1, -5);
        Checks.badArgument("linear(4)", () -> x.linear(4));
        Checks.badArgument("linear(-1)", () -> x.linear(-1));
    }

    private static void pendingCalls() {
        Checks.says("of those that are not, any, with whatever answer");
        ScheduleHouse x = Checks.begun("thread a { call 0, 7; back 5; } thread b { call 1, 0; back 7; call 1, 0; back 9; }", 0);
        x.go(0);
        x.go(1);
        x.go(1);
        row("the put of 7 is not over, but was seen", new int[] {x.linear(0), x.linear(1), x.linear(2)}, 1, 1, 1);
        x.go(1);
        x.go(1);
        // b: take answers 7, then 9: what else could have been put? The 5th of the row is the one that shows it
        row("9 was never put", new int[] {x.linear(0), x.linear(1), x.linear(2)}, -7, -7, -7);
    }

    private static void tooManyCalls() {
        Checks.says("At most 12 calls (else: NONE)");
        ScheduleHouse x = Checks.begun("thread a { while 1 { call 2, 0; back 0; } }", 0);
        x.draw(3, 24);
        row("12 calls", new int[] {x.run(6), x.linear(1), x.linear(2)}, 12, 1, 1);
        x.go(0);
        row("13 calls", new int[] {x.run(6), x.linear(1), x.linear(2)}, 13, NONE, NONE);
    }

    private static void lostSum() {
        Checks.says("Promises 23 to 27: A way is TRIED");
        ScheduleHouse x = Checks.compiled(LOST);
        row("not tried yet", tried(x, 0), 0, 0, 0, 0, 0, 0);
        // a, b: 0 before the READ, 1 before the WRITE (with what was read), 2 ENDED; then the cell
        // s0 00,0  s1 1(0)0,0  s2 01(0),0  s3 20,1  s4 1(0)1(0),0  s5 02,1  s6 21(1),1  s7 21(0),1  s8 1(0)2,1  s9 1(1)2,1
        // s10 22,2 (from s6, s9)  s11 22,1 (from s7, s8); CHOICES 2 2 2 1 2 1 1 1 1 1 0 0
        Checks.due("attempt(0, 3000)", x.attempt(0, 3000), 12);
        row("tried(0, ..)", tried(x, 0), 12, 0, 2, 2, 0, 14);
        row("outcome(0, .., 0)", new int[] {x.outcome(0, 0, 0), x.outcome(0, 1, 0)}, 1, 2);
        // finally fails in s11 (s0 s1 s4 s7 s11); in s1 a may WRITE what b may READ
        row("finding(0, ..)", findings(x, 0), -1, -1, -1, -1, 4, -1, -1, -1, -1, -1, 1);
        Checks.due("show(0, 4)", x.show(0, 4), 4);
        row("run(..)", new int[] {x.run(0), x.run(1), x.run(2), x.run(3), x.run(4), x.run(5), x.cell(0)}, 0, 4, 4, 1, 0, 3, 1);
        row("threads", new int[] {x.act(0, 0), x.act(1, 0), x.act(2, 0), x.act(3, 0)}, 0, 1, 0, 1);
        row("races", new int[] {x.race(0, 0), x.race(0, 1), x.race(1, 0), x.race(1, 1), x.race(2, 0), x.race(2, 1)},
                1, 2, 0, 3, 2, 3);
        Checks.due("show(0, 10)", x.show(0, 10), 1);
        row("a WRITE and a READ", new int[] {x.choices(), x.choice(0, 2), x.choice(1, 2)}, 2, 1, 0);
        Checks.noState("show(0, 8)", () -> x.show(0, 8));
        Checks.badArgument("show(0, 11)", () -> x.show(0, 11));
        Checks.badArgument("finding(2, 0)", () -> x.finding(2, 0));
        Checks.badArgument("attempt(0, 3001)", () -> x.attempt(0, 3001));
        Checks.badArgument("attempt(0, 0)", () -> x.attempt(0, 0));
        Checks.badIndex("outcome(0, 2, 0)", () -> x.outcome(0, 2, 0));
        Checks.badIndex("outcome(0, 0, 1)", () -> x.outcome(0, 0, 1));
        Checks.badIndex("outcome(1, 0, 0)", () -> x.outcome(1, 0, 0));
        Checks.badIndex("tried(0, 6)", () -> x.tried(0, 6));
    }

    private static void lostSumLate() {
        Checks.says("Promise 30: Whether both ways were tried (not PARTLY) and have the same OUTCOMES");
        ScheduleHouse x = Checks.compiled(LOST);
        x.attempt(0, 12);
        Checks.due("one way was not tried", x.alike(), NONE);
        // as above, with L for ENDED with a LATE one: 12 states and L1 0, 0 L1, L1 1(0), 1(0) L1, L1 L1 with the cell 0;
        // 2 L2, 2 L1, L1 2, L2 2 with the cell 1
        Checks.due("attempt(1, 3000)", x.attempt(1, 3000), 21);
        row("tried(1, ..)", tried(x, 1), 21, 0, 2, 2, 0, 28);
        row("finding(1, ..)", findings(x, 1), -1, -1, -1, -1, 6, -1, -1, -1, -1, -1, 1);
        Checks.due("alike()", x.alike(), 1);
        x.attempt(1, 20);
        Checks.due("one way was tried PARTLY", x.alike(), NONE);
        Checks.due("the other's trying stays", x.tried(0, 0), 12);
    }

    private static void partly() {
        Checks.says("when one more would come the trying ENDS there (PARTLY)");
        ScheduleHouse x = Checks.compiled(LOST);
        Checks.due("attempt(0, 5)", x.attempt(0, 5), 5);
        // s0 .. s4 of lostSum(), whose CHOICES are 2 2 2 1 2; s5 would have been one more
        row("tried(0, ..)", tried(x, 0), 5, 1, 0, 0, 0, 9);
        row("finding(0, ..)", findings(x, 0), -1, -1, -1, -1, -1, -1, -1, -1, -1, -1, 1);
        Checks.due("attempt(0, 1)", x.attempt(0, 1), 1);
        row("tried(0, ..)", tried(x, 0), 1, 1, 0, 0, 0, 2);
        Checks.due("attempt(0, 12)", x.attempt(0, 12), 12);
        Checks.due("there is none more", x.tried(0, 1), 0);
        Checks.due("attempt(0, 11)", x.attempt(0, 11), 11);
        Checks.due("s11 would come", x.tried(0, 1), 1);
        Checks.due("s10 was found", x.outcome(0, 0, 0), 2);
    }

    private static void crossedLocks() {
        Checks.says("Promises 28 and 29: COMMON locks of a CELL; how many locks the shortest RING has");
        ScheduleHouse x = Checks.compiled(CROSSED);
        row("not tried yet", new int[] {x.common(0, 0), x.ring(0)}, 3, 0);
        // each thread is at 0 .. 5 (ENDED); a holds l from 1 to 4, m from 2 to 3, b the other way round.
        // b at 0: a at 0 .. 5; a at 0: b at 1 .. 5; 11; b at 5: a at 1 .. 5; a at 5: b at 1 .. 4, and 5 with the other value;
        // 14, 41 and the stuck 11: 24 states. One is blocked in 20 30 02 03 11 14 41
        Checks.due("attempt(0, 3000)", x.attempt(0, 3000), 24);
        row("tried(0, ..)", tried(x, 0), 24, 0, 3, 3, 7, 26);
        row("finding(0, ..)", findings(x, 0), -1, -1, -1, -1, -1, -1, -1, -1, 2, -1, -1);
        row("outcomes", new int[] {x.outcome(0, 0, 0), x.outcome(0, 1, 0), x.outcome(0, 2, 0)}, 0, 1, 2);
        row("common(0, 0), ring(0)", new int[] {x.common(0, 0), x.ring(0)}, 3, 2);
        Checks.due("show(0, 8)", x.show(0, 8), 2);
        row("a holds l, b holds m", new int[] {x.lock(0, 0), x.lock(1, 0), x.run(4), x.choices()}, 0, 1, 1, 0);
        // by way 1 the WRITE has to come before the GIVE: 3 is parted in two where b, or a, is at 0 or 5
        Checks.due("attempt(1, 3000)", x.attempt(1, 3000), 28);
        row("tried(1, ..)", tried(x, 1), 28, 0, 3, 3, 11, 30);
        Checks.due("alike()", x.alike(), 1);
        Checks.badIndex("common(0, 1)", () -> x.common(0, 1));
        Checks.badArgument("common(2, 0)", () -> x.common(2, 0));
        Checks.badArgument("ring(-1)", () -> x.ring(-1));
        ScheduleHouse y = Checks.compiled("lock l; lock m; lock n; cell c; cell d; cell e; thread a { lock l { lock m { c = 1; } c = 2; d = 1; } } "
                + "thread b { lock m { lock n { let x = c; } } } thread k { lock n { lock l { d = 2; } } }");
        y.attempt(0, 3000);
        // c: a holds l and m, then l; b holds m and n: none is common. d: l and n of k, l of a. e is never touched
        row("common(0, ..), ring(0)", new int[] {y.common(0, 0), y.common(0, 1), y.common(0, 2), y.ring(0)}, 0, 1, 7, 3);
    }

    private static void lateOutcomes() {
        Checks.says("OUTCOMES are the different rows of all cells' values in ENDS, sorted by cell 0, then 1, and so on");
        String text = "cell x; cell y; cell p; cell q; thread a { x = 1; %s let r = y; p = r; } thread b { y = 1; %s let r = x; q = r; } "
                + "finally p + q > 0;";
        ScheduleHouse x = Checks.compiled(text.replace("%s", ""));
        x.attempt(0, 3000);
        x.attempt(1, 3000);
        // at once: the one that writes last reads 1; late: both may read 0
        row("way 0", new int[] {x.tried(0, 3), x.outcome(0, 0, 2), x.outcome(0, 0, 3), x.outcome(0, 1, 2), x.outcome(0, 1, 3),
            x.outcome(0, 2, 2), x.outcome(0, 2, 3)}, 3, 0, 1, 1, 0, 1, 1);
        row("way 1", new int[] {x.tried(1, 3), x.outcome(1, 0, 0), x.outcome(1, 0, 1), x.outcome(1, 0, 2), x.outcome(1, 0, 3)},
                4, 1, 1, 0, 0);
        // 6 ACTS, and 4 LATE ones that come
        row("finding(.., 4)", new int[] {x.finding(0, 4), x.finding(1, 4)}, NONE, 10);
        Checks.due("alike()", x.alike(), 0);
        Checks.due("show(1, 4)", x.show(1, 4), 10);
        row("run(..)", new int[] {x.run(0), x.run(1), x.run(2), x.run(3), x.run(7), x.cell(2), x.cell(3)}, 1, 10, 6, 1, 0, 0, 0);
        ScheduleHouse y = Checks.compiled(text.replace("%s", "fence;"));
        y.attempt(0, 3000);
        y.attempt(1, 3000);
        row("with fences", new int[] {y.tried(0, 3), y.tried(1, 3), y.finding(1, 4), y.alike()}, 3, 3, NONE, 1);
    }

    private static void farFindings() {
        Checks.says("Promise 27: IllegalStateException: there is none, or more than 400 CHOICES lead to it");
        String text = "cell c; thread t { let i = 0; while i < %s { i = i + 1; pause; } c = 1; } always c == 0;";
        ScheduleHouse x = Checks.compiled(text.replace("%s", "399"));
        Checks.due("attempt(0, 3000)", x.attempt(0, 3000), 401);
        Checks.due("finding(0, 0)", x.finding(0, 0), 400);
        Checks.due("show(0, 0)", x.show(0, 0), 400);
        row("cell(0), choices()", new int[] {x.cell(0), x.choices(), x.run(1)}, 1, 0, 400);
        ScheduleHouse y = Checks.compiled(text.replace("%s", "400"));
        Checks.due("attempt(0, 3000)", y.attempt(0, 3000), 402);
        Checks.due("finding(0, 0)", y.finding(0, 0), 401);
        y.begin(1);
        Checks.noState("show(0, 0)", () -> y.show(0, 0));
        Checks.due("a refused show leaves the run", y.run(0), 1);
    }
}
