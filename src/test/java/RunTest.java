/** Promises 7 to 19: runs, their choices, what choices do, and what is told of cells, locks, threads and acts. */
public final class RunTest {
    private static final int READ = 0;
    private static final int WRITE = 1;
    private static final int TAKE = 5;
    private static final int GIVE = 6;
    private static final int WAIT = 7;
    private static final int WAKE = 8;
    private static final int START = 9;
    private static final int JOIN = 10;
    private static final int RETAKE = 15;

    public static void main(String[] args) {
        beginning();
        withoutRun();
        choosing();
        sorts();
        drawing();
        repeating();
        mostChoices();
        cellsAndLate();
        lateOnes();
        needsNoLate();
        locks();
        waiting();
        startAndJoin();
        values();
        failures();
        ownSteps();
        localsAndLines();
        actsTold();
        Checks.end();
    }

    private static void beginning() {
        ScheduleHouse x = Checks.compiled("cell a = 5; cell r[2] = -3; cell z; lock l; thread t { let i = 1; pause; } idle thread u { pause; } thread v { }");
        Checks.badArgument("way 2", () -> x.begin(2));
        Checks.badArgument("way -1", () -> x.begin(-1));
        Checks.noState("no run yet", x::choices);
        Checks.due("begin", x.begin(0), 1);
        Checks.due("a", x.cell(0), 5);
        Checks.due("r[0]", x.cell(1), -3);
        Checks.due("r[1]", x.cell(2), -3);
        Checks.due("z", x.cell(3), 0);
        Checks.due("t goes", x.thread(0, 0), 1);
        Checks.due("u sleeps", x.thread(1, 0), 0);
        Checks.due("v ended", x.thread(2, 0), 2);
        Checks.due("t's local", x.local(0, 0), 1);
        Checks.due("free", x.lock(0, 0), -1);
        Checks.due("way", x.run(0), 0);
        Checks.due("go", x.go(0), 0);
        Checks.due("over", x.run(3), 1);
        Checks.due("not stuck: asleep is not going", x.run(4), 0);
        Checks.due("begin by way 1", x.begin(1), 1);
        Checks.due("way", x.run(0), 1);
        Checks.due("none done", x.run(1), 0);
        Checks.badArgument("a bad way leaves the run", () -> x.begin(5));
        Checks.due("way still", x.run(0), 1);
    }

    private static void withoutRun() {
        ScheduleHouse x = Checks.compiled("cell a; lock l; thread t { pause; }");
        Checks.noState("choices", x::choices);
        Checks.noState("choice", () -> x.choice(9, 9));
        Checks.noState("go", () -> x.go(9));
        Checks.noState("draw", () -> x.draw(1, -1));
        Checks.noState("again", () -> x.again(-1));
        Checks.noState("run", () -> x.run(9));
        Checks.noState("cell", () -> x.cell(9));
        Checks.noState("seen", () -> x.seen(9, 9));
        Checks.noState("lock", () -> x.lock(9, 9));
        Checks.noState("thread", () -> x.thread(9, 9));
        Checks.noState("local", () -> x.local(9, 9));
        Checks.noState("act", () -> x.act(9, 9));
        Checks.noState("before", () -> x.before(9, 9));
        Checks.noState("race", () -> x.race(9, 9));
        Checks.noState("linear", () -> x.linear(9));
        x.begin(0);
        Checks.badIndex("choice i", () -> x.choice(1, 0));
        Checks.badIndex("choice -1", () -> x.choice(-1, 0));
        Checks.badIndex("choice what", () -> x.choice(0, 5));
        Checks.badIndex("choice what", () -> x.choice(0, -1));
        Checks.badIndex("go", () -> x.go(1));
        Checks.badIndex("go", () -> x.go(-1));
        Checks.badArgument("draw", () -> x.draw(1, -1));
        Checks.badArgument("draw", () -> x.draw(1, 401));
        Checks.badArgument("again", () -> x.again(1));
        Checks.badArgument("again", () -> x.again(-1));
        Checks.badIndex("run", () -> x.run(8));
        Checks.badIndex("run", () -> x.run(-1));
        Checks.badIndex("cell", () -> x.cell(1));
        Checks.badIndex("cell", () -> x.cell(-1));
        Checks.badIndex("seen cell", () -> x.seen(0, 1));
        Checks.badIndex("seen thread", () -> x.seen(1, 0));
        Checks.badIndex("seen thread", () -> x.seen(-1, 0));
        Checks.badIndex("lock", () -> x.lock(1, 0));
        Checks.badIndex("lock what", () -> x.lock(0, 3));
        Checks.badIndex("thread", () -> x.thread(1, 0));
        Checks.badIndex("thread what", () -> x.thread(0, 5));
        Checks.badIndex("local", () -> x.local(0, 0));
        Checks.badIndex("local thread", () -> x.local(1, 0));
        Checks.badIndex("act", () -> x.act(0, 0));
        Checks.badIndex("before", () -> x.before(0, 0));
        Checks.badIndex("race", () -> x.race(0, 0));
        x.go(0);
        Checks.badIndex("act what", () -> x.act(0, 5));
        Checks.badIndex("act what", () -> x.act(0, -1));
        Checks.badIndex("act", () -> x.act(-1, 0));
        Checks.badIndex("nothing to do", () -> x.go(0));
    }

    private static void choosing() {
        ScheduleHouse x = Checks.begun("cell a; cell b; thread t { a = 1; b = 2; a = 3; fence; } thread u { let i = a; }", 1);
        Checks.due("two acts", x.choices(), 2);
        x.go(0);
        x.go(0);
        // t: its act (a = 3), then late a = 1, late b = 2; u: its act
        x.go(0);
        // t's fence waits: late a = 1, late b = 2 (a = 3 is behind a = 1), then u's act
        Checks.due("choices", x.choices(), 3);
        int[][] want = {{0, 1, 1, 0, -1}, {0, 1, 1, 1, -1}, {1, 0, READ, 0, -1}};
        for (int i = 0; i < 3; i++) {
            for (int what = 0; what < 5; what++) {
                Checks.due("choice(" + i + ", " + what + ")", x.choice(i, what), want[i][what]);
            }
        }
        Checks.due("b comes first", x.go(1), 2);
        Checks.due("b", x.cell(1), 2);
        Checks.due("a", x.cell(0), 0);
        Checks.due("late a = 1 comes", x.go(0), 2);
        Checks.due("a", x.cell(0), 1);
        Checks.due("late a = 3 comes", x.go(0), 2);
        Checks.due("a", x.cell(0), 3);
        Checks.due("the fence", x.choice(0, 2), 11);
    }

    /** One thread that does every sort of act, with what choice() tells of it before it is done. */
    private static void sorts() {
        ScheduleHouse x = Checks.begun("cell a; cell r[3]; lock k; lock l; thread t { let i = a; a = 1; i = swap r[1], 2; i = add r[2], 3;"
                + " i = cas a, 1, 4; take l; give l; take k; wait k; wake k; wakeall k; start u; join u; fence; pause;"
                + " call 2, 7; back 8; r[i + 5] = 1; } idle thread u { } thread v { lock k { wake k; } }", 0);
        int[][] want = {{0, 0}, {1, 0}, {2, 2}, {3, 3}, {4, 0}, {5, 1}, {6, 1}, {5, 0}, {7, 0}, {15, 0}, {8, 0}, {8, 0}, {9, 1},
            {10, 1}, {11, -1}, {12, -1}, {13, 2}, {14, -1}, {1, -1}};
        for (int i = 0; i < want.length; i++) {
            if (want[i][0] == RETAKE) {
                Checks.due("only v can go", x.choices(), 1);
                x.go(0);
                Checks.due("v wakes t", x.choice(0, 4), 0);
                x.go(0);
                Checks.due("only v can go: it holds the lock", x.choices(), 1);
                x.go(0);
            }
            Checks.due("thread", x.choice(0, 0), 0);
            Checks.due("an act", x.choice(0, 1), 0);
            Checks.due("sort " + i, x.choice(0, 2), want[i][0]);
            Checks.due("object " + i, x.choice(0, 3), want[i][1]);
            Checks.due("woken " + i, x.choice(0, 4), -1);
            x.go(0);
            int last = x.run(2) - 1;
            Checks.due("act's sort " + i, x.act(last, 1), want[i][0]);
            Checks.due("act's object " + i, x.act(last, 2), want[i][1]);
        }
        Checks.due("failed by its [ ]", x.thread(0, 1), 2);
    }

    private static void drawing() {
        ScheduleHouse x = Checks.begun("cell a; thread t { a = 1; a = 2; a = 3; } thread u { a = 4; a = 5; a = 6; }", 0);
        int seed = 12345;
        int[] left = {3, 3};
        int[] order = new int[6];
        for (int k = 0; k < 6; k++) {
            seed = seed * 1103515245 + 12345;
            int d = (seed >>> 16) & 0x7fff;
            int many = (left[0] > 0 ? 1 : 0) + (left[1] > 0 ? 1 : 0);
            int c = d % many;
            int t = many == 1 ? left[0] > 0 ? 0 : 1 : c;
            left[t]--;
            order[k] = t;
        }
        Checks.due("draw", x.draw(12345, 400), 6);
        for (int k = 0; k < 6; k++) {
            Checks.due("drawn " + k, x.act(k, 0), order[k]);
        }
        Checks.due("nothing left", x.draw(1, 400), 0);
        x.begin(1);
        Checks.due("draw 0", x.draw(1, 0), 0);
        Checks.due("draw 2", x.draw(-7, 2), 2);
        Checks.due("done", x.run(1), 2);
        ScheduleHouse loop = Checks.begun("thread t { while 1 { pause; } }", 0);
        Checks.due("draw", loop.draw(3, 399), 399);
        Checks.due("draw up to 400", loop.draw(3, 400), 1);
        Checks.due("draw none", loop.draw(3, 400), 0);
    }

    private static void repeating() {
        ScheduleHouse x = Checks.begun("cell a; thread t { a = 1; a = 2; } thread u { a = 7; }", 0);
        x.go(1);
        x.go(0);
        x.go(0);
        Checks.due("a", x.cell(0), 2);
        Checks.badArgument("again 4", () -> x.again(4));
        Checks.due("again 2", x.again(2), 1);
        Checks.due("a", x.cell(0), 1);
        Checks.due("done", x.run(1), 2);
        Checks.due("acts", x.run(2), 2);
        Checks.badArgument("again 3", () -> x.again(3));
        Checks.due("again 1", x.again(1), 1);
        Checks.due("a", x.cell(0), 7);
        Checks.due("again 0", x.again(0), 2);
        Checks.due("a", x.cell(0), 0);
        Checks.due("acts", x.run(2), 0);
        ScheduleHouse y = Checks.begun("cell a; thread t { a = 1; }", 1);
        y.go(0);
        Checks.due("way stays", y.again(1), 1);
        Checks.due("late", y.run(7), 1);
        Checks.due("way", y.run(0), 1);
    }

    private static void mostChoices() {
        ScheduleHouse x = Checks.begun("thread t { while 1 { pause; } }", 0);
        for (int k = 0; k < 400; k++) {
            x.go(0);
        }
        Checks.due("choices", x.choices(), 1);
        Checks.due("not over", x.run(3), 0);
        Checks.noState("400 were done", () -> x.go(0));
        Checks.noState("400 were done, and there is none such", () -> x.go(5));
        Checks.due("again", x.again(400), 1);
        Checks.due("done", x.run(1), 400);
        x.again(399);
        Checks.due("one more", x.go(0), 1);
    }

    private static void cellsAndLate() {
        String text = "sure cell s; cell a; thread t { a = 1; a = 2; let i = a; } thread u { let i = a; s = 1; }";
        ScheduleHouse x = Checks.begun(text, 1);
        x.go(0);
        x.go(0);
        Checks.due("what came", x.cell(1), 0);
        Checks.due("seen by t", x.seen(0, 1), 2);
        Checks.due("seen by u", x.seen(1, 1), 0);
        Checks.due("t's late ones", x.thread(0, 2), 2);
        Checks.due("all late ones", x.run(7), 2);
        x.go(0);
        Checks.due("t read", x.act(2, 3), 2);
        Checks.due("t ended all the same", x.thread(0, 0), 2);
        Checks.due("its late ones stay", x.thread(0, 2), 2);
        x.go(0);
        Checks.due("came", x.cell(1), 1);
        Checks.due("seen by t", x.seen(0, 1), 2);
        Checks.due("seen by u", x.seen(1, 1), 1);
        x.go(1);
        x.go(1);
        Checks.due("a sure write comes at once", x.cell(0), 1);
        ScheduleHouse y = Checks.begun(text, 0);
        y.go(0);
        Checks.due("at once", y.cell(1), 1);
        Checks.due("none late", y.run(7), 0);
        Checks.due("seen by all", y.seen(1, 1), 1);
    }

    private static void lateOnes() {
        ScheduleHouse x = Checks.begun("cell a; thread t { let i = 0; while i < 9 { a = i; i = i + 1; } }", 1);
        for (int k = 0; k < 8; k++) {
            x.go(0);
        }
        Checks.due("late", x.run(7), 8);
        Checks.due("act and one late", x.choices(), 2);
        x.go(0);
        Checks.due("failed", x.thread(0, 0), 3);
        Checks.due("by the 9th", x.thread(0, 1), 9);
        Checks.due("wrote nothing", x.act(8, 4), 0);
        Checks.due("late ones stay", x.run(7), 8);
        for (int k = 0; k < 8; k++) {
            Checks.due("one after the other", x.choices(), 1);
            x.go(0);
            Checks.due("in their order", x.cell(0), k);
        }
        Checks.due("over", x.run(3), 1);
        ScheduleHouse y = Checks.begun("cell a; thread t { let i = 0; while i < 9 { a = i; i = i + 1; } }", 1);
        for (int k = 0; k < 8; k++) {
            y.go(0);
        }
        y.go(1);
        y.go(0);
        Checks.due("there was room again", y.thread(0, 0), 2);
    }

    /** Each act that waits in way 1 for the late ones of its thread, and those that do not. */
    private static void needsNoLate() {
        String[] wait = {"s = 1;", "r[0] = 1;", "let i = swap a, 1;", "let i = add s, 1;", "let i = cas a, 1, 2;", "take l;", "lock l { }",
            "give l;", "wait l;", "wake l;", "wakeall l;", "start u;", "join v;", "fence;", "r[9] = 1;"};
        String[] free = {"let i = a;", "let i = s;", "a = 2;", "pause;", "call 1, 1;", "back 1;", "let i = r[9];"};
        String defs = "cell a; sure cell s; sure cell r[2]; lock l; idle thread u { } thread v { } thread t { a = 1; ";
        for (String s : wait) {
            ScheduleHouse x = Checks.begun(defs + s + " }", 1);
            x.go(0);
            Checks.due("waits: " + s, x.choices(), 1);
            Checks.due("for the late one: " + s, x.choice(0, 1), 1);
            Checks.due("goes: " + s, x.thread(2, 0), 1);
            x.go(0);
            Checks.due("then it can: " + s, x.choice(0, 1), 0);
            ScheduleHouse y = Checks.begun(defs + s + " }", 0);
            y.go(0);
            Checks.due("way 0: " + s, y.choice(0, 1), 0);
        }
        for (String s : free) {
            ScheduleHouse x = Checks.begun(defs + s + " }", 1);
            x.go(0);
            Checks.due("does not wait: " + s, x.choices(), 2);
        }
        // a join of one that has ended, but has late ones
        ScheduleHouse x = Checks.begun("cell a; thread t { a = 1; } thread u { join t; }", 1);
        x.go(0);
        Checks.due("the late one alone", x.choices(), 1);
        Checks.due("the late one alone", x.choice(0, 1), 1);
        x.go(0);
        Checks.due("then the join", x.choice(0, 2), JOIN);
    }

    private static void locks() {
        ScheduleHouse x = Checks.begun("lock l; lock m; thread t { take l; take l; lock m { end; } } thread u { lock l { } } thread v { lock m { } }", 0);
        x.go(0);
        Checks.due("u can not take it", x.choices(), 2);
        x.go(0);
        Checks.due("held by t", x.lock(0, 0), 0);
        Checks.due("twice", x.lock(0, 1), 2);
        Checks.due("none waits", x.lock(0, 2), 0);
        x.go(0);
        Checks.due("t ended", x.thread(0, 0), 2);
        Checks.due("m stays held", x.lock(1, 0), 0);
        Checks.due("once", x.lock(1, 1), 1);
        Checks.due("over", x.run(3), 1);
        Checks.due("stuck", x.run(4), 1);
        ScheduleHouse y = Checks.begun("lock l; thread t { lock l { lock l { } } }", 0);
        y.go(0);
        y.go(0);
        y.go(0);
        Checks.due("still held", y.lock(0, 1), 1);
        y.go(0);
        Checks.due("given", y.lock(0, 0), -1);
        Checks.due("given", y.lock(0, 1), 0);
        Checks.due("ended", y.thread(0, 0), 2);
        // a lock's give fails when it was given within
        ScheduleHouse z = Checks.begun("lock l; thread t { lock l { give l; } }", 0);
        z.draw(1, 400);
        Checks.due("failed", z.thread(0, 1), 3);
        // the locks of one that failed stay held
        ScheduleHouse f = Checks.begun("lock l; thread t { lock l { assert 0; } } thread u { take l; }", 0);
        f.go(0);
        Checks.due("failed", f.thread(0, 1), 5);
        Checks.due("held still", f.lock(0, 0), 0);
        Checks.due("stuck", f.run(4), 1);
    }

    private static void waiting() {
        ScheduleHouse x = Checks.begun("lock l; thread a { lock l { lock l { wait l; pause; } } } thread b { lock l { wait l; } }"
                + " thread c { lock l { wake l; wakeall l; } }", 0);
        x.go(0);
        x.go(0);
        Checks.due("a waits next", x.choice(0, 2), WAIT);
        x.go(0);
        Checks.due("given wholly", x.lock(0, 0), -1);
        Checks.due("one waits", x.lock(0, 2), 1);
        Checks.due("a is going", x.thread(0, 0), 1);
        x.go(0);
        x.go(0);
        Checks.due("two wait", x.lock(0, 2), 2);
        Checks.due("c alone", x.choices(), 1);
        x.go(0);
        Checks.due("which one is woken is chosen", x.choices(), 2);
        Checks.due("a", x.choice(0, 4), 0);
        Checks.due("b", x.choice(1, 4), 1);
        Checks.due("sort", x.choice(1, 2), WAKE);
        Checks.due("c holds still", x.go(1), 1);
        Checks.due("one waits yet", x.lock(0, 2), 1);
        Checks.due("wakeall tells none", x.choice(0, 4), -1);
        x.go(0);
        Checks.due("none waits", x.lock(0, 2), 0);
        Checks.due("give", x.choice(0, 2), GIVE);
        Checks.due("both may take it again", x.go(0), 2);
        Checks.due("retake", x.choice(0, 2), RETAKE);
        Checks.due("of the lock", x.choice(0, 3), 0);
        x.go(0);
        Checks.due("as often as before", x.lock(0, 1), 2);
        Checks.due("held by a", x.lock(0, 0), 0);
        Checks.due("b can not", x.choices(), 1);
        x.draw(1, 400);
        Checks.due("all ended", x.run(4), 0);
        ScheduleHouse y = Checks.begun("lock l; thread a { lock l { wake l; } } thread b { lock l { wait l; } }", 0);
        y.go(0);
        Checks.due("none to wake", y.choice(0, 4), -1);
        y.draw(1, 400);
        Checks.due("b waits for ever", y.run(4), 1);
        ScheduleHouse z = Checks.begun("lock l; thread a { lock l { wait l; } } thread b { wake l; }", 0);
        z.go(0);
        z.go(0);
        Checks.due("fails: wakes none", z.choice(0, 4), -1);
        z.go(0);
        Checks.due("4", z.thread(1, 1), 4);
        Checks.due("a waits still", z.lock(0, 2), 1);
    }

    private static void startAndJoin() {
        ScheduleHouse x = Checks.begun("cell a; thread t { start u; join u; a = 1; start u; } idle thread u { let i = 5; pause; }", 0);
        Checks.due("start", x.choice(0, 2), START);
        Checks.due("u", x.choice(0, 3), 1);
        x.go(0);
        Checks.due("u is before its first act", x.local(1, 0), 5);
        Checks.due("t can not join yet", x.choices(), 1);
        Checks.due("u", x.choice(0, 0), 1);
        x.go(0);
        Checks.due("now it can", x.choice(0, 2), JOIN);
        x.go(0);
        x.go(0);
        x.go(0);
        Checks.due("start of one that ended", x.thread(0, 1), 7);
        ScheduleHouse y = Checks.begun("thread t { join t; }", 0);
        Checks.due("never", y.choices(), 0);
        Checks.due("stuck", y.run(4), 1);
        ScheduleHouse z = Checks.begun("thread t { join u; } thread u { assert 0; } thread v { join w; } idle thread w { } thread s { start s; }", 0);
        Checks.due("one that failed can be joined, one asleep not", z.choices(), 2);
        z.go(0);
        z.go(0);
        Checks.due("start of itself", z.thread(4, 1), 7);
        Checks.due("v is stuck", z.run(4), 1);
    }

    private static int worked(String sum) {
        ScheduleHouse x = Checks.begun("thread t { } thread u { let i = " + sum + "; pause; }", 0);
        return x.thread(1, 0) == 3 ? -1000 - x.thread(1, 1) : x.local(1, 0);
    }

    private static void values() {
        Checks.due("self", worked("self"), 1);
        Checks.due("* before +", worked("1 + 2 * 3"), 7);
        Checks.due("left first", worked("10 - 3 - 2"), 5);
        Checks.due("left first", worked("100 / 10 / 2"), 5);
        Checks.due("/ to 0", worked("-7 / 2"), -3);
        Checks.due("/ to 0", worked("7 / -2"), -3);
        Checks.due("mod", worked("-7 mod 3"), -1);
        Checks.due("mod", worked("7 mod -3"), 1);
        Checks.due("mod beside *", worked("7 * 3 mod 4"), 1);
        Checks.due("/ by 0", worked("1 / 0"), -1001);
        Checks.due("mod by 0", worked("1 mod (1 - 1)"), -1001);
        Checks.due("and works both", worked("0 and 1 / 0"), -1001);
        Checks.due("or works both", worked("1 or 1 / 0"), -1001);
        Checks.due("and", worked("2 and -1"), 1);
        Checks.due("or", worked("0 or 0"), 0);
        Checks.due("or is weakest", worked("1 or 0 and 0"), 1);
        Checks.due("not is strongest", worked("not 0 == 0"), 0);
        Checks.due("not 5", worked("not 5"), 0);
        Checks.due("not not 5", worked("not not 5"), 1);
        Checks.due("- before *", worked("-2 * -3"), 6);
        Checks.due("- - 4", worked("- - 4"), 4);
        Checks.due("== below +", worked("1 + 1 == 2"), 1);
        Checks.due("a < b < c", worked("3 < 2 < 1"), 1);
        Checks.due("<=", worked("2 <= 2"), 1);
        Checks.due(">=", worked("1 >= 2"), 0);
        Checks.due(">", worked("2 > 1"), 1);
        Checks.due("!=", worked("2 != 2"), 0);
        Checks.due("wrap", worked("999999999 * 3"), (int) 2999999997L);
        Checks.due("least", worked("(0 - 2147483 * 1000 - 648) / -1"), Integer.MIN_VALUE);
        Checks.due("least mod", worked("(0 - 2147483 * 1000 - 648) mod -1"), 0);
        Checks.due("parentheses", worked("(1 + 2) * 3"), 9);
    }

    private static int failure(String body) {
        ScheduleHouse x = Checks.begun("cell a; cell r[2]; lock l; thread t { " + body + " }", 0);
        x.draw(1, 400);
        Checks.due("failed: " + body, x.thread(0, 0), 3);
        return x.thread(0, 1);
    }

    private static void failures() {
        Checks.due("1 in an act", failure("a = 1 / 0;"), 1);
        Checks.due("1 in [ ]", failure("let i = r[1 / 0];"), 1);
        Checks.due("2", failure("r[2] = 1;"), 2);
        Checks.due("2 below", failure("let i = swap r[-1], 1;"), 2);
        Checks.due("[ ] first", failure("r[2] = 1 / 0;"), 2);
        Checks.due("cas works both", failure("let i = cas a, 5, 1 / 0;"), 1);
        Checks.due("3", failure("give l;"), 3);
        Checks.due("4 wait", failure("wait l;"), 4);
        Checks.due("4 wake", failure("wake l;"), 4);
        Checks.due("4 wakeall", failure("wakeall l;"), 4);
        Checks.due("5", failure("assert 1 == 2;"), 5);
        Checks.due("1 in an assert", failure("assert 1 / 0;"), 1);
        Checks.due("6", failure("while 1 { }"), 6);
        Checks.due("7", failure("start t;"), 7);
        Checks.due("8 call", failure("call 0, 1; call 0, 1;"), 8);
        Checks.due("8 back", failure("back 1;"), 8);
        Checks.due("E before 8", failure("back 1 / 0;"), 1);
        Checks.due("E before 8", failure("call 0, 1; call 0, 1 / 0;"), 1);
        ScheduleHouse x = Checks.begun("cell a = 3; thread t { let i = swap a, 7 / 0; }", 0);
        x.go(0);
        Checks.due("an act all the same", x.run(2), 1);
        Checks.due("nothing else", x.cell(0), 3);
        Checks.due("its cell", x.act(0, 2), 0);
        Checks.due("read nothing", x.act(0, 3), 0);
        Checks.due("wrote nothing", x.act(0, 4), 0);
        Checks.due("its local is not known", x.thread(0, 3), 0);
        Checks.due("0 without a failure", Checks.begun("thread t { }", 0).thread(0, 1), 0);
    }

    private static void ownSteps() {
        // let 1; each round a trial and a set; the last trial: 1 + 2 * 149 + 1 = 300
        String loop = "let i = 0; while i < 149 { i = i + 1; }";
        ScheduleHouse x = Checks.begun("thread t { " + loop + " pause; }", 0);
        Checks.due("300 are not too many", x.thread(0, 0), 1);
        Checks.due("i", x.local(0, 0), 149);
        ScheduleHouse y = Checks.begun("thread t { " + loop + " assert 1; pause; }", 0);
        Checks.due("301 are", y.thread(0, 1), 6);
        Checks.due("end counts", Checks.begun("thread t { " + loop + " end; }", 0).thread(0, 1), 6);
        Checks.due("its end does not", Checks.begun("thread t { " + loop + " }", 0).thread(0, 0), 2);
        Checks.due("if counts", Checks.begun("thread t { " + loop + " if 0 { } }", 0).thread(0, 1), 6);
        String less = "let i = 0; while i < 148 { i = i + 1; }";
        Checks.due("2 more", Checks.begun("thread t { " + less + " if 0 { } else { } assert 1; pause; }", 0).thread(0, 0), 1);
        Checks.due("an else's if counts", Checks.begun("thread t { " + less + " if 0 { } else if 1 { } assert 1; pause; }", 0).thread(0, 1), 6);
        Checks.due("else does not", Checks.begun("thread t { " + less + " if 0 { } else { let j = 1; } pause; }", 0).thread(0, 0), 1);
        ScheduleHouse z = Checks.begun("thread t { " + loop + " pause; " + loop.replace('i', 'j').replace("whjle", "while") + " }", 0);
        z.go(0);
        Checks.due("an act begins the count anew", z.thread(0, 0), 2);
        ScheduleHouse f = Checks.begun("thread t { let i = 0; while 1 { i = i + 1; } }", 0);
        Checks.due("the 301st is not done", f.local(0, 0), 149);
    }

    private static void localsAndLines() {
        ScheduleHouse x = Checks.begun("cell c; lock l; thread t {\n let a = 1;\n if a {\n let b = 2; let a = 3;\n pause;\n a = 4;\n"
                + " lock\n l { let d = 9;\n pause; }\n b = c; }\n let e = 5;\n take l;\n wait\n l; assert e == 6; }", 0);
        Checks.due("line", x.thread(0, 4), 5);
        Checks.due("known", x.thread(0, 3), 3);
        int[] want = {1, 2, 3};
        for (int i = 0; i < 3; i++) {
            Checks.due("local " + i, x.local(0, i), want[i]);
        }
        Checks.badIndex("local 3", () -> x.local(0, 3));
        x.go(0);
        Checks.due("line of lock", x.thread(0, 4), 7);
        Checks.due("the inner a", x.local(0, 2), 4);
        Checks.due("the outer a", x.local(0, 0), 1);
        x.go(0);
        Checks.due("within", x.thread(0, 3), 4);
        Checks.due("line", x.thread(0, 4), 9);
        x.go(0);
        Checks.due("give is behind the block", x.thread(0, 3), 3);
        Checks.due("line of give", x.thread(0, 4), 7);
        x.go(0);
        Checks.due("line of the read", x.thread(0, 4), 10);
        x.go(0);
        Checks.due("a and e", x.thread(0, 3), 2);
        Checks.due("e", x.local(0, 1), 5);
        Checks.due("line of take", x.thread(0, 4), 12);
        x.go(0);
        Checks.due("line of wait", x.thread(0, 4), 13);
        x.go(0);
        Checks.due("line of retake", x.thread(0, 4), 13);
        Checks.due("known while it waits", x.thread(0, 3), 2);
        ScheduleHouse y = Checks.begun("thread t { let a = 1; if 1 { let b = 2; assert a == b; } } thread u { let a = 1; }", 0);
        Checks.due("of a failed one", y.thread(0, 3), 2);
        Checks.due("of a failed one", y.local(0, 1), 2);
        Checks.due("line of a failed one", y.thread(0, 4), 0);
        Checks.due("of an ended one", y.thread(1, 3), 0);
        Checks.badIndex("of an ended one", () -> y.local(1, 0));
        Checks.due("line of an ended one", y.thread(1, 4), 0);
        ScheduleHouse z = Checks.begun("cell a = 4; thread t { let a = a; pause; a = a + 1; a = a; pause; }", 0);
        z.go(0);
        Checks.due("let a = a reads the cell", z.local(0, 0), 4);
        z.go(0);
        Checks.due("then a is the local", z.local(0, 0), 5);
        Checks.due("the cell stays", z.cell(0), 4);
    }

    private static void actsTold() {
        ScheduleHouse x = Checks.begun("cell a = 5; cell r[2]; thread t { let i = a; r[1] = i + 1; i = swap a, 7; i = add a, 3; i = cas a, 10, 20;"
                + " i = cas a, 1, 2; call 3, -4; back 6; pause; }", 0);
        x.draw(1, 400);
        int[][] want = {{0, READ, 0, 5, 0}, {0, WRITE, 2, 0, 6}, {0, 2, 0, 5, 7}, {0, 3, 0, 7, 10}, {0, 4, 0, 10, 20}, {0, 4, 0, 20, 20},
            {0, 13, 3, 0, -4}, {0, 14, -1, 0, 6}, {0, 12, -1, 0, 0}};
        Checks.due("acts", x.run(2), want.length);
        for (int a = 0; a < want.length; a++) {
            for (int what = 0; what < 5; what++) {
                Checks.due("act(" + a + ", " + what + ")", x.act(a, what), want[a][what]);
            }
        }
        Checks.due("calls", x.run(6), 1);
        ScheduleHouse y = Checks.begun("cell a = 1; thread t { let i = swap a, 5; let j = add a, 2; let k = cas a, 7, 9; let l = cas a, 7, 3; pause; }", 0);
        for (int k = 0; k < 4; k++) {
            y.go(0);
        }
        int[] locals = {1, 5, 1, 0};
        for (int i = 0; i < 4; i++) {
            Checks.due("what swap, add, cas give " + i, y.local(0, i), locals[i]);
        }
        Checks.due("the cell", y.cell(0), 9);
        ScheduleHouse z = Checks.begun("cell a; thread t { a = 3; let i = a; }", 1);
        z.go(0);
        z.go(1);
        Checks.due("a late one that comes is no act", z.run(2), 1);
        Checks.due("but a choice", z.run(1), 2);
        Checks.due("the act wrote", z.act(0, 4), 3);
        ScheduleHouse c = Checks.begun("thread t { call 0, 1; call 0, 1; }", 0);
        c.draw(1, 400);
        Checks.due("a call that fails is not begun", c.run(6), 1);
        Checks.due("it failed", c.act(1, 4), 0);
        Checks.due("its kind", c.act(1, 2), 0);
        Checks.due("take's object", Checks.begun("lock k; lock l; thread t { take l; }", 0).choice(0, 3), 1);
        Checks.due("take", Checks.begun("lock k; lock l; thread t { take l; }", 0).choice(0, 2), TAKE);
    }
}
