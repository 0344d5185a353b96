/** Promises 20 to 22: what happens before what, races, and histories of calls. */
public final class OrderTest {
    public static void main(String[] args) {
        ofOneThread();
        startsAndJoins();
        locks();
        waits();
        sureCells();
        failedActs();
        races();
        raceOrder();
        lateRaces();
        structures();
        overlaps();
        callsNotOver();
        fewest();
        manyCalls();
        Checks.end();
    }

    /** Does the act of a thread, which has to be a choice. */
    private static void act(ScheduleHouse x, int thread) {
        for (int i = 0; i < x.choices(); i++) {
            if (x.choice(i, 0) == thread && x.choice(i, 1) == 0) {
                x.go(i);
                return;
            }
        }
        Checks.due("an act of thread " + thread + " is a choice", 0, 1);
    }

    private static ScheduleHouse acts(String text, int... threads) {
        ScheduleHouse x = Checks.begun(text, 0);
        for (int t : threads) {
            act(x, t);
        }
        return x;
    }

    private static void before(ScheduleHouse x, int a, int b, boolean want) {
        Checks.due("before(" + a + ", " + b + ")", x.before(a, b), want);
        Checks.due("before(" + b + ", " + a + ")", x.before(b, a), false);
    }

    private static void ofOneThread() {
        ScheduleHouse x = acts("cell a; thread t { pause; pause; } thread u { pause; }", 0, 1, 0);
        before(x, 0, 2, true);
        before(x, 0, 1, false);
        before(x, 1, 2, false);
        Checks.due("not before itself", x.before(0, 0), false);
        Checks.badIndex("act 3", () -> x.before(0, 3));
        Checks.badIndex("act 3", () -> x.before(3, 0));
        Checks.badIndex("act -1", () -> x.before(-1, 0));
        Checks.badIndex("act -1", () -> x.before(0, -1));
    }

    private static void startsAndJoins() {
        ScheduleHouse x = acts("thread t { pause; start u; pause; join u; } idle thread u { pause; pause; }", 0, 0, 0, 1, 1, 0);
        before(x, 0, 3, true);
        before(x, 1, 3, true);
        before(x, 2, 3, false);
        before(x, 4, 5, true);
        before(x, 1, 5, true);
        before(x, 2, 4, false);
        // a thread without acts: its start is before nothing of it, and nothing of it before the join
        ScheduleHouse y = acts("thread t { start v; } thread u { join v; } idle thread v { }", 0, 1);
        before(y, 0, 1, false);
        ScheduleHouse z = acts("thread t { start v; } thread u { join v; } idle thread v { pause; }", 0, 2, 1);
        before(z, 0, 2, true);
        before(z, 1, 2, true);
    }

    private static void locks() {
        String text = "lock l; lock m; thread t { pause; lock l { pause; } pause; } thread u { pause; lock l { } } thread v { lock m { } }";
        ScheduleHouse x = acts(text, 0, 0, 0, 0, 0, 1, 1, 1, 2);
        // t: 0 pause 1 take 2 pause 3 give 4 pause; u: 5 pause 6 take 7 give; v: 8 take of m
        before(x, 0, 5, false);
        before(x, 3, 6, true);
        before(x, 0, 6, true);
        before(x, 3, 7, true);
        before(x, 4, 6, false);
        before(x, 7, 8, false);
        before(x, 3, 8, false);
        // each later take, not just the next one
        ScheduleHouse y = acts("lock l; thread t { lock l { } } thread u { lock l { } } thread v { lock l { } }", 0, 0, 1, 1, 2);
        before(y, 1, 4, true);
        before(y, 3, 4, true);
        before(y, 0, 2, true);
    }

    private static void waits() {
        ScheduleHouse x = acts("lock l; thread t { pause; take l; wait l; } thread u { take l; wake l; pause; give l; }", 0, 0, 0, 1, 1, 1, 1, 0);
        // t: 0 pause 1 take 2 wait; u: 3 take 4 wake 5 pause 6 give; t: 7 retake
        before(x, 2, 3, true);
        before(x, 0, 4, true);
        before(x, 4, 7, true);
        before(x, 5, 7, true);
        before(x, 6, 7, true);
    }

    private static void sureCells() {
        ScheduleHouse x = acts("sure cell s; thread t { pause; s = 1; } thread u { let i = s; pause; } thread v { s = 2; } thread w { let i = s; }",
                0, 0, 1, 1, 2, 3);
        // 0 pause 1 write 2 read 3 pause 4 write of v 5 read of w
        before(x, 1, 2, true);
        before(x, 0, 3, true);
        before(x, 1, 4, false);
        before(x, 2, 4, false);
        before(x, 1, 5, true);
        before(x, 4, 5, true);
        before(x, 3, 5, false);
        String[] exchanges = {"swap s, 1", "add s, 1", "cas s, 9, 1"};
        for (String e : exchanges) {
            ScheduleHouse y = acts("sure cell s; thread t { let i = " + e + "; } thread u { let i = " + e + "; } thread v { s = 1; } thread w { let i = s; }"
                    + "thread z { let i = " + e + "; }", 0, 1, 2, 3, 4);
            before(y, 0, 1, true);
            before(y, 1, 2, false);
            before(y, 1, 3, true);
            before(y, 2, 4, true);
            before(y, 3, 4, false);
        }
        ScheduleHouse z = acts("cell a; thread t { a = 1; } thread u { let i = a; }", 0, 1);
        before(z, 0, 1, false);
    }

    private static void failedActs() {
        ScheduleHouse x = acts("sure cell s; lock l; thread t { s = 1 / 0; } thread u { let i = s; } thread v { join t; }", 0, 1, 2);
        before(x, 0, 1, false);
        before(x, 0, 2, true);
        ScheduleHouse y = acts("lock l; thread t { pause; give l; } thread u { take l; }", 0, 0, 1);
        before(y, 1, 2, false);
        before(y, 0, 1, true);
        ScheduleHouse z = acts("thread t { start u; } thread u { pause; }", 0, 1);
        before(z, 0, 1, false);
        ScheduleHouse s = acts("sure cell s; thread t { s = 1; } thread u { let i = swap s, 1 / 0; }", 0, 1);
        before(s, 0, 1, false);
        ScheduleHouse w = acts("thread t { start u; } idle thread u { give l; } lock l;", 0, 1);
        before(w, 0, 1, true);
    }

    private static void race(String first, String second, boolean want) {
        ScheduleHouse x = acts("cell a; cell b; sure cell s; cell r[2]; thread t { " + first + " } thread u { " + second + " }", 0, 1);
        Checks.due(first + " and " + second, x.run(5), want ? 1 : 0);
        if (want) {
            Checks.due("earlier", x.race(0, 0), 0);
            Checks.due("later", x.race(0, 1), 1);
        }
    }

    private static void races() {
        String read = "let i = a;";
        String write = "a = 1;";
        String swap = "let i = swap a, 1;";
        String add = "let i = add a, 1;";
        String cas = "let i = cas a, 5, 1;";
        race(read, read, false);
        race(read, write, true);
        race(write, read, true);
        race(write, write, true);
        for (String exchange : new String[] {swap, add, cas}) {
            race(read, exchange, true);
            race(exchange, read, true);
            race(write, exchange, true);
            race(exchange, write, true);
            race(exchange, swap, false);
            race(exchange, add, false);
            race(exchange, cas, false);
        }
        race(write, "b = 1;", false);
        race("s = 1;", "s = 2;", false);
        race("s = 1;", "let i = s;", false);
        race("r[0] = 1;", "r[1] = 1;", false);
        race("r[0] = 1;", "r[2 - 2] = 1;", true);
        race(write, "a = 1 / 0;", false);
        race("r[7] = 1;", "r[7] = 1;", false);
        ScheduleHouse x = acts("cell a; lock l; thread t { lock l { a = 1; } } thread u { lock l { a = 2; } }", 0, 0, 0, 1, 1, 1);
        Checks.due("by a lock", x.run(5), 0);
        ScheduleHouse y = acts("cell a; sure cell s; thread t { a = 1; s = 1; } thread u { let i = s; let j = a; }", 0, 0, 1, 1);
        Checks.due("by a sure cell", y.run(5), 0);
        ScheduleHouse z = acts("cell a; sure cell s; thread t { a = 1; s = 1; } thread u { let i = s; let j = a; }", 1, 0, 0, 1);
        Checks.due("read too early", z.run(5), 1);
        Checks.due("earlier", z.race(0, 0), 1);
        Checks.due("later", z.race(0, 1), 3);
        ScheduleHouse w = acts("cell a; thread t { a = 1; start u; a = 3; } idle thread u { let i = a; }", 0, 0, 1, 0);
        Checks.due("by its start, not behind it", w.run(5), 1);
        Checks.due("later", w.race(0, 1), 3);
    }

    private static void raceOrder() {
        ScheduleHouse x = acts("cell a; thread t { a = 1; a = 2; } thread u { a = 3; a = 4; } thread v { let i = a; }", 0, 1, 2, 0, 1);
        // 0 t, 1 u, 2 v reads, 3 t, 4 u
        int[][] want = {{0, 1}, {0, 2}, {1, 2}, {1, 3}, {2, 3}, {0, 4}, {2, 4}, {3, 4}};
        Checks.due("races", x.run(5), want.length);
        for (int i = 0; i < want.length; i++) {
            Checks.due("race " + i, x.race(i, 0), want[i][0]);
            Checks.due("race " + i, x.race(i, 1), want[i][1]);
        }
        Checks.badIndex("race", () -> x.race(8, 0));
        Checks.badIndex("race", () -> x.race(-1, 0));
        Checks.badIndex("race which", () -> x.race(0, 2));
        Checks.badIndex("race which", () -> x.race(0, -1));
    }

    private static void lateRaces() {
        ScheduleHouse x = Checks.begun("cell a; thread t { a = 1; } thread u { let i = a; }", 1);
        act(x, 0);
        act(x, 1);
        Checks.due("the acts race, though the write has not come", x.run(5), 1);
        x.go(0);
        Checks.due("a late one that comes is no act", x.run(5), 1);
    }

    /** Calls of one thread, each {kind, value, answer}: which structures they are right for. */
    private static void row(int[] linear, int[]... calls) {
        StringBuilder body = new StringBuilder();
        for (int[] c : calls) {
            body.append("call ").append(c[0]).append(", ").append(c[1]).append("; back ").append(c[2]).append("; ");
        }
        ScheduleHouse x = Checks.begun("thread t { " + body + "}", 0);
        x.draw(1, 400);
        for (int s = 0; s < 4; s++) {
            Checks.due("linear(" + s + ") of " + body, x.linear(s), linear[s]);
        }
        Checks.badArgument("structure", () -> x.linear(4));
        Checks.badArgument("structure", () -> x.linear(-1));
    }

    private static void structures() {
        row(new int[] {1, 1, 1, 1});
        // a cell: write, read, add, swap
        row(new int[] {1, -8, -8, -4}, new int[] {0, 5, 0}, new int[] {1, 9, 5}, new int[] {2, 3, 5}, new int[] {3, 1, 8}, new int[] {1, 0, 1});
        row(new int[] {1, -4, -4, 1}, new int[] {1, 0, 0});
        row(new int[] {-4, 1, 1, -4}, new int[] {1, 0, -1});
        // a stack and a queue
        row(new int[] {-10, 1, -8, -4}, new int[] {0, 5, 0}, new int[] {0, 6, 0}, new int[] {1, 0, 6}, new int[] {1, 0, 5}, new int[] {1, 0, -1});
        row(new int[] {-8, -8, 1, -4}, new int[] {0, 5, 0}, new int[] {0, 6, 0}, new int[] {1, 0, 5}, new int[] {1, 0, 6}, new int[] {1, 0, -1});
        row(new int[] {-8, 1, 1, -4}, new int[] {0, 5, 0}, new int[] {0, 5, 0}, new int[] {2, 0, 2}, new int[] {3, 0, 2}, new int[] {2, 0, 0},
                new int[] {1, 0, -1});
        // a set
        row(new int[] {-4, -4, -4, 1}, new int[] {0, 5, 1}, new int[] {0, 5, 0}, new int[] {2, 5, 1}, new int[] {2, 6, 0}, new int[] {0, 6, 1},
                new int[] {3, 0, 2}, new int[] {1, 5, 1}, new int[] {1, 5, 0}, new int[] {3, 9, 1}, new int[] {2, 6, 1});
        // the set's values may be any
        row(new int[] {-4, -4, -4, -8}, new int[] {0, -1, 1}, new int[] {1, -1, 1}, new int[] {3, 0, 1});
    }

    private static void overlaps() {
        String text = "thread t { call 0, 1; back 0; } thread u { call 1, 0; back 1; }";
        // a cell that is written and read: together, or one over before the other
        Checks.due("together", acts(text, 0, 1, 1, 0).linear(0), 1);
        Checks.due("together", acts(text, 1, 0, 1, 0).linear(0), 1);
        Checks.due("write before", acts(text, 0, 0, 1, 1).linear(0), 1);
        Checks.due("read before", acts(text, 1, 1, 0, 0).linear(0), -4);
        // two puts at the same time may be in either order
        String stack = "thread t { call 0, 1; back 0; } thread u { call 0, 2; back 0; call 1, 0; back 1; call 1, 0; back 2; }";
        Checks.due("together", acts(stack, 0, 1, 1, 0, 1, 1, 1, 1).linear(1), 1);
        Checks.due("t first", acts(stack, 0, 0, 1, 1, 1, 1, 1, 1).linear(1), -8);
        Checks.due("t first", acts(stack, 0, 0, 1, 1, 1, 1, 1, 1).linear(2), 1);
        Checks.due("t last", acts(stack, 1, 1, 0, 0, 1, 1, 1, 1).linear(1), 1);
        Checks.due("t last", acts(stack, 1, 1, 0, 0, 1, 1, 1, 1).linear(2), -8);
    }

    private static void callsNotOver() {
        String text = "thread t { call 0, 7; pause; back 5; } thread u { call 1, 0; back 7; call 1, 0; back 0; }";
        // t's write is not over: the read may have seen it, and then it can not be unseen
        Checks.due("seen", acts(text, 0, 1, 1).linear(0), 1);
        Checks.due("unseen again", acts(text, 0, 1, 1, 1, 1).linear(0), -7);
        Checks.due("not begun", acts(text, 1, 1, 0).linear(0), -4);
        Checks.due("not begun, though it was seen", acts(text, 1, 0, 1).linear(0), 1);
        Checks.due("its answer is wrong when it comes", acts(text, 0, 0, 0).linear(0), -4);
        Checks.due("no call is over", acts(text, 0, 1).linear(3), 1);
        Checks.due("no call at all", acts(text).linear(2), 1);
    }

    private static void fewest() {
        String text = "thread t { call 0, 1; back 0; call 1, 0; back 9; call 1, 0; back 8; } thread u { call 1, 0; }";
        Checks.due("the first back that is wrong", acts(text, 1, 0, 0, 0, 0, 0, 0).linear(0), -7);
        Checks.due("of a queue, too", acts(text, 1, 0, 0, 0, 0, 0, 0).linear(2), -7);
        Checks.due("without u", acts(text, 0, 0, 0, 0, 0, 0).linear(0), -6);
        Checks.due("not yet wrong", acts(text, 1, 0, 0, 0).linear(0), 1);
    }

    private static void manyCalls() {
        ScheduleHouse x = Checks.begun("thread t { let i = 0; while i < 13 { call 2, 1; back i; i = i + 1; } }", 0);
        for (int k = 0; k < 24; k++) {
            x.go(0);
        }
        Checks.due("12 calls", x.run(6), 12);
        Checks.due("12 calls", x.linear(0), 1);
        Checks.due("12 calls", x.linear(1), -6);
        x.go(0);
        Checks.due("13 calls", x.run(6), 13);
        Checks.due("13 calls", x.linear(0), -1);
        Checks.due("13 calls, not linear either", x.linear(1), -1);
        Checks.badArgument("structure", () -> x.linear(4));
        // twelve at their most: six at once, twice, and one answer that can not be
        StringBuilder text = new StringBuilder();
        for (int t = 0; t < 6; t++) {
            text.append("thread t").append(t).append(" { call 0, ").append(t).append("; back 0; call ").append(t == 5 ? 2 : 0)
                    .append(", ").append(t + 6).append("; back ").append(t == 5 ? 77 : 0).append("; } ");
        }
        ScheduleHouse y = acts(text.toString(), 0, 1, 2, 3, 4, 5, 0, 1, 2, 3, 4, 5, 0, 1, 2, 3, 4, 5, 0, 1, 2, 3, 4, 5);
        Checks.due("a stack of twelve", y.linear(1), -2 - 24);
        Checks.due("a queue of twelve", y.linear(2), -2 - 24);
    }
}
