/** Promises 23 to 30: all that a program can do. */
public final class TryTest {
    private static final int STUCK = 8;
    private static final int FAILED = 9;
    private static final int RACING = 10;

    public static void main(String[] args) {
        arguments();
        notTried();
        counting();
        statesThatAreOne();
        limits();
        ends();
        outcomes();
        claims();
        stuckAndFailed();
        racing();
        shown();
        deep();
        common();
        ring();
        alike();
        runStays();
        again();
        Checks.end();
    }

    private static ScheduleHouse tried(String text, int way) {
        ScheduleHouse x = Checks.compiled(text);
        x.attempt(way, 3000);
        return x;
    }

    private static void tried(String what, ScheduleHouse x, int way, int... want) {
        for (int k = 0; k < want.length; k++) {
            Checks.due(what + ": tried(" + way + ", " + k + ")", x.tried(way, k), want[k]);
        }
    }

    private static void arguments() {
        ScheduleHouse x = new ScheduleHouse();
        Checks.noState("nothing compiled, and bad arguments", () -> x.attempt(2, 0));
        Checks.feed(x, "cell a; thread t { pause; }");
        x.compile();
        Checks.badArgument("way", () -> x.attempt(2, 10));
        Checks.badArgument("way", () -> x.attempt(-1, 10));
        Checks.badArgument("limit", () -> x.attempt(0, 0));
        Checks.badArgument("limit", () -> x.attempt(0, 3001));
        Checks.due("limit 1", x.attempt(0, 1), 1);
        Checks.due("limit 3000", x.attempt(0, 3000), 2);
        Checks.badArgument("tried way", () -> x.tried(2, 9));
        Checks.badIndex("tried what", () -> x.tried(0, 6));
        Checks.badIndex("tried what", () -> x.tried(1, -1));
        Checks.badArgument("outcome way", () -> x.outcome(-1, 9, 9));
        Checks.badIndex("outcome i", () -> x.outcome(0, 1, 0));
        Checks.badIndex("outcome i", () -> x.outcome(0, -1, 0));
        Checks.badIndex("outcome c", () -> x.outcome(0, 0, 1));
        Checks.badIndex("outcome c", () -> x.outcome(0, 0, -1));
        Checks.due("outcome", x.outcome(0, 0, 0), 0);
        Checks.badArgument("finding way", () -> x.finding(2, 0));
        Checks.badArgument("finding f", () -> x.finding(0, 11));
        Checks.badArgument("finding f", () -> x.finding(0, -1));
        Checks.badArgument("show way", () -> x.show(2, 0));
        Checks.badArgument("show f", () -> x.show(0, 11));
        Checks.badArgument("show f", () -> x.show(0, -1));
        Checks.noState("show of none", () -> x.show(0, 0));
        Checks.badArgument("common way", () -> x.common(2, 9));
        Checks.badIndex("common c", () -> x.common(0, 1));
        Checks.badIndex("common c", () -> x.common(0, -1));
        Checks.badArgument("ring way", () -> x.ring(2));
        Checks.badArgument("ring way", () -> x.ring(-1));
    }

    private static void notTried() {
        ScheduleHouse x = Checks.compiled("cell a; lock k; lock l; lock m; thread t { assert 0; } always 0;");
        for (int what = 0; what < 6; what++) {
            Checks.due("not tried", x.tried(1, what), 0);
        }
        Checks.badIndex("no outcome", () -> x.outcome(0, 0, 0));
        Checks.due("no finding", x.finding(0, 0), -1);
        Checks.noState("nothing to show", () -> x.show(0, 0));
        Checks.due("all locks", x.common(0, 0), 7);
        Checks.due("no ring", x.ring(0), 0);
        Checks.due("alike", x.alike(), -1);
        x.attempt(0, 10);
        Checks.due("the other way is not tried", x.tried(1, 0), 0);
        Checks.due("the other way is not tried", x.finding(1, 0), -1);
        Checks.due("found", x.finding(0, 0), 0);
        x.compile();
        Checks.due("compile forgets", x.tried(0, 0), 0);
        Checks.due("compile forgets", x.finding(0, 0), -1);
        x.wipe();
        Checks.badIndex("nothing compiled", () -> x.common(0, 0));
        Checks.badIndex("nothing compiled", () -> x.outcome(0, 0, 0));
    }

    private static void counting() {
        // two threads of two acts: 3 * 3 states, of which 1 end
        ScheduleHouse x = tried("thread t { pause; pause; } thread u { pause; pause; }", 0);
        tried("3 times 3", x, 0, 9, 0, 1, 1, 0, 12);
        ScheduleHouse none = tried("", 0);
        tried("nothing", none, 0, 1, 0, 1, 1, 0, 0);
        // way 1: write, then its late one comes
        ScheduleHouse late = tried("cell a; thread t { a = 1; fence; }", 1);
        tried("late", late, 1, 4, 0, 1, 1, 1, 3);
        ScheduleHouse at = tried("cell a; thread t { a = 1; fence; }", 0);
        tried("at once", at, 0, 3, 0, 1, 1, 0, 2);
    }

    private static void statesThatAreOne() {
        tried("a loop", tried("thread t { while 1 { pause; } }", 0), 0, 1, 0, 0, 0, 0, 1);
        tried("two pauses of a loop", tried("thread t { while 1 { pause; pause; } }", 0), 0, 2, 0, 0, 0, 0, 2);
        // locals count while they are known
        tried("known", tried("cell a; thread t { let i = 0; while 1 { i = 1 - i; pause; } }", 0), 0, 2, 0, 0, 0, 0, 2);
        tried("not known", tried("cell a; thread t { let k = 0; while k < 2 { if 1 { let i = k; } k = k + 1; } pause; pause; }", 0), 0, 3, 0, 1, 1, 0, 2);
        // what was read is not known any more: both orders end in one state
        tried("read and forgotten", tried("cell a; thread t { if 1 { let i = a; } pause; } thread u { a = 1; }", 0), 0, 6, 0, 1, 1, 0, 7);
        tried("read and known", tried("cell a; thread t { let i = a; pause; } thread u { a = 1; }", 0), 0, 7, 0, 1, 1, 0, 8);
        // failed ones differ by where and by their locals
        tried("failed at one place", tried("cell a; thread t { let i = a; assert 0; } thread u { a = 1; }", 0), 0, 5, 0, 2, 1, 0, 4);
        tried("failed, nothing known", tried("cell a; thread t { if 1 { let i = a; } assert 0; } thread u { a = 1; }", 0), 0, 4, 0, 1, 1, 0, 4);
        // in a call of which kind, also of an ended one
        tried("kinds", tried("sure cell a; thread t { let i = a; if i { call 1, 5; } else { call 2, 6; } } thread u { a = 1; }", 0), 0, 8, 0, 2, 1, 0, 8);
        tried("values of calls are no part", tried("sure cell a; thread t { let i = a; call 1, i; } thread u { a = 1; }", 0), 0, 7, 0, 1, 1, 0, 8);
        // late ones in their order
        tried("late ones", tried("cell a; cell b; thread t { a = 1; b = 1; }", 1), 1, 7, 0, 1, 1, 0, 8);
    }

    private static void limits() {
        ScheduleHouse x = Checks.compiled("thread t { pause; pause; } thread u { pause; pause; } always 0; finally 0;");
        Checks.due("all", x.attempt(0, 9), 9);
        Checks.due("wholly", x.tried(0, 1), 0);
        Checks.due("one less", x.attempt(0, 8), 8);
        Checks.due("partly", x.tried(0, 1), 1);
        Checks.due("the end is not found", x.tried(0, 2), 0);
        Checks.due("nor is the finally", x.finding(0, 4), -1);
        // 1 + 2 found: of each its choices are counted when it is found
        Checks.due("3", x.attempt(0, 3), 3);
        Checks.due("choices", x.tried(0, 5), 6);
        Checks.due("1", x.attempt(0, 1), 1);
        Checks.due("partly", x.tried(0, 1), 1);
        Checks.due("choices", x.tried(0, 5), 2);
        Checks.due("found at once", x.finding(0, 0), 0);
        ScheduleHouse loop = Checks.compiled("thread t { while 1 { pause; } }");
        Checks.due("one state", loop.attempt(0, 1), 1);
        Checks.due("and no other", loop.tried(0, 1), 0);
        ScheduleHouse wide = Checks.compiled("cell a; thread t { while 1 { let i = add a, 1; } }");
        Checks.due("3000", wide.attempt(1, 3000), 3000);
        Checks.due("partly", wide.tried(1, 1), 1);
    }

    private static void ends() {
        ScheduleHouse x = tried("lock l; lock m; thread t { lock l { lock m { } } } thread u { lock m { lock l { } } }", 0);
        Checks.due("ended, or stuck", x.tried(0, 2), 2);
        Checks.due("outcomes without cells", x.tried(0, 3), 1);
        ScheduleHouse y = tried("lock l; thread t { take l; join u; } thread u { take l; }", 0);
        Checks.due("some thread going, without an act", y.tried(0, 4), 2);
    }

    private static void outcomes() {
        ScheduleHouse x = tried("cell a; cell b; thread t { a = 1; let i = b; if i == 0 { b = -5; } } thread u { a = -2; let i = a; b = i; }", 0);
        int many = x.tried(0, 3);
        for (int i = 1; i < many; i++) {
            boolean sorted = x.outcome(0, i - 1, 0) < x.outcome(0, i, 0)
                    || x.outcome(0, i - 1, 0) == x.outcome(0, i, 0) && x.outcome(0, i - 1, 1) < x.outcome(0, i, 1);
            Checks.due("sorted, and each once", sorted, true);
        }
        ScheduleHouse y = tried("cell a; thread t { a = 1; } thread u { a = -1; } thread v { a = 1; }", 0);
        Checks.due("two", y.tried(0, 3), 2);
        Checks.due("the least first", y.outcome(0, 0, 0), -1);
        Checks.due("then", y.outcome(0, 1, 0), 1);
        // both read 0 only when writes come late
        String buffering = "cell x; cell y; cell r; cell s; thread t { x = 1; let i = y; r = i; } thread u { y = 1; let i = x; s = i; }";
        ScheduleHouse z = tried(buffering, 1);
        Checks.due("late: 4", z.tried(1, 3), 4);
        Checks.due("r", z.outcome(1, 0, 2), 0);
        Checks.due("s", z.outcome(1, 0, 3), 0);
        z.attempt(0, 3000);
        Checks.due("at once: 3", z.tried(0, 3), 3);
        Checks.due("r", z.outcome(0, 0, 2), 0);
        Checks.due("s", z.outcome(0, 0, 3), 1);
    }

    private static void claims() {
        ScheduleHouse x = tried("cell a; cell r[2]; thread t { a = 1; a = 2; r[1] = 3; } always 1; always a < 2; always r[1] == 0; always 2 / (2 - a);"
                + " finally a == 2; finally a == 3; finally 5 / r[0]; finally r[1];", 0);
        int[] want = {-1, 2, 3, 2, -1, 3, 3, -1, -1, -1, -1};
        for (int f = 0; f < 11; f++) {
            Checks.due("finding " + f, x.finding(0, f), want[f]);
        }
        // of what came to cells
        ScheduleHouse y = tried("cell a; thread t { a = 1; pause; } always a == 0;", 1);
        Checks.due("when it has come", y.finding(1, 0), 2);
        // not while it is stuck, but when one failed
        ScheduleHouse z = tried("thread t { join t; } finally 0;", 0);
        Checks.due("stuck: not asked", z.finding(0, 4), -1);
        ScheduleHouse w = tried("thread t { assert 0; } idle thread u { } finally 0;", 0);
        Checks.due("failed: asked", w.finding(0, 4), 0);
        ScheduleHouse late = tried("cell a; thread t { a = 1; } finally a == 0;", 1);
        Checks.due("over only when all came", late.finding(1, 4), 2);
        ScheduleHouse four = tried("cell a; finally 1; finally 1; finally 1; finally 0; always 1; always 1; always 1; always a;", 0);
        Checks.due("the last always", four.finding(0, 3), 0);
        Checks.due("the last finally", four.finding(0, 7), 0);
        Checks.due("the first always", four.finding(0, 0), -1);
    }

    private static void stuckAndFailed() {
        ScheduleHouse x = tried("lock l; lock m; thread t { lock l { lock m { } } } thread u { lock m { lock l { } } }", 0);
        Checks.due("stuck by two takes", x.finding(0, STUCK), 2);
        Checks.due("none failed", x.finding(0, FAILED), -1);
        ScheduleHouse y = tried("cell a; thread t { a = 1; } thread u { pause; let i = a; assert i == 0; }", 0);
        Checks.due("failed by three", y.finding(0, FAILED), 3);
        Checks.due("not stuck", y.finding(0, STUCK), -1);
        Checks.due("at once", tried("thread t { assert 0; }", 0).finding(0, FAILED), 0);
        Checks.due("at once", tried("thread t { join t; }", 0).finding(0, STUCK), 0);
        Checks.due("asleep is not stuck", tried("idle thread t { pause; }", 0).finding(0, STUCK), -1);
    }

    private static int racing(String defs, String t, String u, int way) {
        return tried(defs + " thread t { " + t + " } thread u { " + u + " }", way).finding(way, RACING);
    }

    private static void racing() {
        Checks.due("writes", racing("cell a;", "a = 1;", "a = 2;", 0), 0);
        Checks.due("reads", racing("cell a;", "let i = a;", "let i = a;", 0), -1);
        Checks.due("read, write", racing("cell a;", "pause; let i = a;", "a = 1;", 0), 1);
        Checks.due("adds", racing("cell a;", "let i = add a, 1;", "let i = swap a, 1;", 0), -1);
        Checks.due("add, read", racing("cell a;", "let i = add a, 1;", "let i = a;", 0), 0);
        Checks.due("sure", racing("sure cell a;", "a = 1;", "a = 2;", 0), -1);
        Checks.due("other cells", racing("cell r[2];", "r[0] = 1;", "r[1] = 1;", 0), -1);
        Checks.due("locked", racing("cell a; lock l;", "lock l { a = 1; }", "lock l { a = 2; }", 0), -1);
        Checks.due("fails", racing("cell a;", "a = 1 / 0;", "a = 2;", 0), -1);
        Checks.due("[ ] fails", racing("cell r[2];", "r[2] = 1;", "r[2] = 2;", 0), -1);
        Checks.due("cas fails", racing("cell a;", "let i = cas a, 1, 1 / 0;", "a = 2;", 0), -1);
        // in way 1 the swap waits for the late one
        Checks.due("way 0", racing("cell a; cell b;", "b = 1; let i = swap a, 1;", "pause; a = 1;", 0), 2);
        Checks.due("way 1", racing("cell a; cell b;", "b = 1; let i = swap a, 1;", "pause; a = 1;", 1), 3);
        // the 9th write fails
        String eight = "let i = 0; while i < 8 { b = i; i = i + 1; } a = 1;";
        Checks.due("9th, way 0", racing("cell a; cell b;", eight, "join v; a = 2; } thread v { ", 0), 9);
        int far = racing("cell a; cell b;", eight, "start v; a = 2; } idle thread v { ", 1);
        Checks.due("9th, way 1: not before one came", far, 10);
    }

    private static void shown() {
        ScheduleHouse x = tried("cell a; thread t { let i = a; a = i + 1; } thread u { let i = a; a = i + 1; } finally a == 2; always a < 2;", 0);
        Checks.due("lost", x.finding(0, 4), 4);
        Checks.due("show", x.show(0, 4), 4);
        Checks.due("done", x.run(1), 4);
        Checks.due("a", x.cell(0), 1);
        Checks.due("over", x.run(3), 1);
        // by the first choices in their order: t reads, u reads, t writes, u writes
        int[] threads = {0, 1, 0, 1};
        for (int a = 0; a < 4; a++) {
            Checks.due("thread of act " + a, x.act(a, 0), threads[a]);
        }
        Checks.due("races", x.run(5) > 0, true);
        Checks.due("again", x.again(1), 2);
        Checks.due("show anew", x.show(0, 4), 4);
        Checks.noState("none by way 1", () -> x.show(1, 4));
        Checks.due("the run stays", x.run(1), 4);
        Checks.badArgument("no such finding", () -> x.show(0, 12));
        x.attempt(1, 3000);
        Checks.due("show by way 1", x.show(1, 4), x.finding(1, 4));
        Checks.due("its way", x.run(0), 1);
        Checks.due("a", x.cell(0), 1);
        ScheduleHouse y = tried("thread t { assert 0; }", 0);
        Checks.due("at the beginning", y.show(0, FAILED), 0);
        Checks.due("a run that was not begun", y.choices(), 0);
    }

    /** A finding behind more choices than a run can do. */
    private static void deep() {
        String text = "cell a; thread t { let i = 0; while i < 500 { i = i + 1; a = i; } } always a < 400; always a < 401; finally 0;";
        ScheduleHouse x = tried(text, 0);
        Checks.due("400", x.finding(0, 0), 400);
        Checks.due("401", x.finding(0, 1), 401);
        Checks.due("500", x.finding(0, 4), 500);
        x.begin(1);
        x.go(0);
        Checks.noState("too far", () -> x.show(0, 1));
        Checks.due("the run stays", x.run(1), 1);
        Checks.due("its way stays", x.run(0), 1);
        Checks.due("400 can be shown", x.show(0, 0), 400);
        Checks.due("a", x.cell(0), 400);
        Checks.noState("no more", () -> x.go(0));
    }

    private static void common() {
        String defs = "cell a; cell b; cell c; sure cell d; cell r[2]; lock k; lock l; ";
        ScheduleHouse x = tried(defs + "thread t { lock k { lock l { a = 1; b = 1; } let i = b; } d = 1; r[1] = 2; r[5] = 1; }"
                + " thread u { lock l { let i = a; } }", 0);
        int[] want = {2, 1, 3, 0, 3, 0};
        for (int c = 0; c < want.length; c++) {
            Checks.due("common " + c, x.common(0, c), want[c]);
        }
        Checks.due("the other way is not tried", x.common(1, 0), 3);
        // an act that would fail is a choice all the same
        Checks.due("fails", tried("cell a; lock l; thread t { lock l { a = 1; } a = 1 / 0; }", 0).common(0, 0), 0);
        // what never is a choice does not count
        Checks.due("never", tried("cell a; lock l; thread t { lock l { a = 1; } end; a = 1; }", 0).common(0, 0), 1);
        Checks.due("never", tried("cell a; lock l; thread t { lock l { a = 1; } join t; a = 1; }", 0).common(0, 0), 1);
        // while it waits it does not hold
        Checks.due("no locks", tried("cell a; thread t { a = 1; }", 0).common(0, 0), 0);
    }

    private static void ring() {
        Checks.due("two", tried("lock l; lock m; thread t { lock l { lock m { } } } thread u { lock m { lock l { } } }", 0).ring(0), 2);
        Checks.due("one order", tried("lock l; lock m; thread t { lock l { lock m { } } } thread u { lock l { lock m { } } }", 0).ring(0), 0);
        Checks.due("itself is no ring", tried("lock l; thread t { lock l { lock l { } } }", 0).ring(0), 0);
        String three = "lock a; lock b; lock c; lock d; thread t { lock a { lock b { } } } thread u { lock b { lock c { } } } thread v { lock c { lock a { } } }";
        Checks.due("three", tried(three, 0).ring(0), 3);
        Checks.due("three", tried(three, 1).ring(1), 3);
        Checks.due("the shortest", tried(three + " thread w { lock a { lock d { lock a { } } } }", 0).ring(0), 2);
        // a gate above both: the ring is told all the same, though it is never stuck
        String gate = "lock g; lock l; lock m; thread t { lock g { lock l { lock m { } } } } thread u { lock g { lock m { lock l { } } } }";
        ScheduleHouse x = tried(gate, 0);
        Checks.due("gated", x.ring(0), 2);
        Checks.due("never stuck", x.finding(0, STUCK), -1);
        Checks.due("one thread", tried("lock l; lock m; thread t { lock l { lock m { } } lock m { lock l { } } }", 0).ring(0), 2);
        // a retake is no take
        Checks.due("retake", tried("lock l; lock m; thread t { take l; take m; wait l; } thread u { lock l { wakeall l; } }", 0).ring(0), 0);
        Checks.due("a take that never can be", tried("lock l; lock m; thread t { lock l { lock m { } } } thread u { take m; join u; take l; }", 0).ring(0), 0);
        StringBuilder six = new StringBuilder();
        for (int i = 0; i < 6; i++) {
            six.append("lock l").append(i).append("; ");
        }
        six.append("thread t { ");
        for (int i = 0; i < 6; i++) {
            six.append("lock l").append(i).append(" { lock l").append((i + 1) % 6).append(" { } } ");
        }
        Checks.due("six", tried(six + "}", 0).ring(0), 6);
    }

    private static void alike() {
        String buffering = "cell x; cell y; cell r; cell s; thread t { x = 1; FENCE let i = y; r = i; } thread u { y = 1; FENCE let i = x; s = i; }";
        ScheduleHouse x = tried(buffering.replace("FENCE", ""), 0);
        Checks.due("one way", x.alike(), -1);
        x.attempt(1, 3000);
        Checks.due("other outcomes", x.alike(), 0);
        x.attempt(0, 5);
        Checks.due("partly", x.alike(), -1);
        x.attempt(0, 3000);
        Checks.due("again wholly", x.alike(), 0);
        ScheduleHouse y = tried(buffering.replace("FENCE", "fence;"), 0);
        y.attempt(1, 3000);
        Checks.due("with fences", y.alike(), 1);
        y.attempt(1, 3);
        Checks.due("partly", y.alike(), -1);
        ScheduleHouse none = tried("", 0);
        none.attempt(1, 1);
        Checks.due("nothing", none.alike(), 1);
        ScheduleHouse loops = tried("thread t { while 1 { pause; } }", 0);
        loops.attempt(1, 1);
        Checks.due("no outcomes at all", loops.alike(), 1);
    }

    private static void runStays() {
        ScheduleHouse x = Checks.begun("cell a; thread t { a = 1; a = 2; } thread u { a = 3; }", 1);
        x.go(0);
        x.go(0);
        x.attempt(0, 3000);
        x.attempt(1, 2);
        Checks.due("way", x.run(0), 1);
        Checks.due("done", x.run(1), 2);
        Checks.due("late", x.run(7), 2);
        Checks.due("choices", x.choices(), 2);
        Checks.due("go", x.go(0), 2);
        Checks.due("a", x.cell(0), 1);
        x.begin(0);
        Checks.due("a run leaves what was tried", x.tried(1, 1), 1);
    }

    /** Later tryings begin afresh. */
    private static void again() {
        ScheduleHouse x = Checks.compiled("cell a; lock l; thread t { lock l { a = 1; } a = 2; } finally a == 1; always a != 2;");
        x.attempt(0, 3000);
        Checks.due("common", x.common(0, 0), 0);
        Checks.due("finding", x.finding(0, 4), 4);
        x.attempt(0, 2);
        Checks.due("common of fewer", x.common(0, 0), 1);
        Checks.due("finding of fewer", x.finding(0, 4), -1);
        Checks.due("finding of fewer", x.finding(0, 1), -1);
        Checks.due("outcomes of fewer", x.tried(0, 3), 0);
        for (int k = 0; k < 3; k++) {
            Checks.due("states", x.attempt(k % 2, 3000), k % 2 == 0 ? 5 : 7);
        }
        x.wipe();
        Checks.feed(x, "cell a; cell b; cell c; lock l; lock m; thread t { c = 1; } thread u { b = 1; }");
        x.compile();
        Checks.due("another text", x.attempt(0, 3000), 4);
        Checks.due("its outcome", x.outcome(0, 0, 2), 1);
        Checks.due("common", x.common(0, 0), 3);
        Checks.due("common", x.common(0, 1), 0);
    }
}
