/** One object used again: nothing of an earlier text, run or trying is left; and one text that has the most of all. */
public final class ReuseTest {
    public static void main(String[] args) {
        namesAreForgotten();
        faultsAreForgotten();
        rowsAreForgotten();
        manyTexts();
        ordersAreForgotten();
        clocksAreForgotten();
        historiesAreForgotten();
        callsAreForgotten();
        tryingsAreForgotten();
        theMostOfAll();
        theMostChoices();
        longestText();
        Checks.end();
    }

    private static ScheduleHouse other(ScheduleHouse x, String text) {
        x.wipe();
        Checks.feed(x, text);
        return x;
    }

    private static void becomes(ScheduleHouse x, String marked, int answer) {
        int place = marked.indexOf('@');
        String text = place < 0 ? marked : marked.substring(0, place) + marked.substring(place + 1);
        Checks.due("compile() of " + text, other(x, text).compile(), answer);
        Checks.due("fault(0) of " + text, x.fault(0), place);
    }

    private static void namesAreForgotten() {
        Checks.says("THE TEXT is empty then, as behind feed() nothing is compiled");
        ScheduleHouse x = new ScheduleHouse();
        becomes(x, "cell a; lock b; thread c { } cell d[2];", 1);
        becomes(x, "thread t { @a = 1; }", -5);
        becomes(x, "thread t { take @b; }", -5);
        becomes(x, "thread t { start @c; }", -5);
        becomes(x, "thread t { @d[0] = 1; }", -5);
        becomes(x, "always @a;", -5);
        becomes(x, "lock a; cell b; cell c; thread d { }", 1);
        becomes(x, "cell a; lock b; thread c { } cell d[2];", 1);
        becomes(x, "cell d; lock c; thread b { } cell a[2];", 1);
        becomes(x, "thread t { let a = 1; }", 1);
        becomes(x, "thread t { assert @a; }", -5);
        becomes(x, "", 0);
        for (int what = 0; what < 5; what++) {
            Checks.due("count(" + what + ")", x.count(what), 0);
        }
        // shorter names at the same places
        becomes(x, "cell abc; cell abd; thread t { abc = 1; }", 1);
        becomes(x, "cell abd; cell abx; thread t { @abc = 1; }", -5);
        becomes(x, "cell ab;  cell abx; thread t { @abc = 1; }", -5);
        becomes(x, "cell a; cell b; thread t { take @a; }", -5);
        becomes(x, "lock a; cell b; thread t { take a; }", 1);
        for (int k = 0; k < 8; k++) {
            becomes(x, "thread v" + k + " { join w" + k + "; } lock l" + k + "; cell c" + k + "; thread w" + k + " { c" + k + " = 1; take l" + k + "; }", 2);
            Checks.due("begin", x.begin(0), 1);
            Checks.due("the cell", x.choice(0, 3), 0);
            x.go(0);
            x.go(0);
            Checks.due("the thread", x.choice(0, 3), 1);
        }
    }

    private static void faultsAreForgotten() {
        Checks.says("THE TEXT is read and judged");
        String[] bad = {"thread t { let a = 1; let b = 2; if a { while b { @$", "thread t { lock l { if 1 { let a = (1 + (2 * @]", "always ((((1 + @;", "thread t { @always", "cell a[@",
            "thread t { let a = 1; let a1 = 1; let a2 = 1; let a3 = 1; let a4 = 1; let a5 = 1; let a6 = 1; let a7 = 1; let @a8 = 1; }",
            "thread t { " + "lock l { ".repeat(16) + "@end; ", "thread t { let x = swap @1", "sure @lock", "idle @cell", "finally not not @;", "thread t { if 1 { } else if @{"};
        for (String b : bad) {
            ScheduleHouse x = new ScheduleHouse();
            int number = b.contains("$") ? -1 : b.contains("@a8") || b.contains("@end") ? -3 : -2;
            becomes(x, b, number);
            becomes(x, "lock a;", 0);
            Checks.due("one lock", x.count(1), 1);
            Checks.due("no thread", x.count(2), 0);
            becomes(x, b, number);
            becomes(x, "thread u { let b = 2; let a = b; pause; a = 3; pause; } finally 1;", 1);
            x.begin(0);
            Checks.due("LOCALS", x.thread(0, 3), 2);
            Checks.due("a", x.local(0, 1), 2);
            x.go(0);
            Checks.due("a", x.local(0, 1), 3);
        }
    }

    private static void rowsAreForgotten() {
        Checks.says("of a row by the WHOLE that stands behind it");
        ScheduleHouse x = new ScheduleHouse();
        becomes(x, "cell a[8]; cell b[8]; cell c[7]; cell @d[8];", -3);
        becomes(x, "cell a[8]; cell b[8]; cell c[7]; cell d[@];", -2);
        becomes(x, "cell a[8]; cell b[8]; cell c[7]; cell d[1];", 0);
        becomes(x, "cell a[8]; cell b[8]; cell c[7]; cell d[@x];", -2);
        becomes(x, "cell a[8]; cell b[8]; cell c[7]; cell d;", 0);
        // what was a row is a cell now
        becomes(x, "cell a[2]; thread t { a[1] = 7; }", 1);
        x.begin(0);
        x.go(0);
        Checks.due("a[1]", x.cell(1), 7);
        becomes(x, "cell a; cell b; thread t { a = 7; }", 1);
        x.begin(0);
        x.go(0);
        Checks.due("a", x.cell(0), 7);
        Checks.due("b", x.cell(1), 0);
        becomes(x, "sure cell a; cell b = 3; thread t { a = 7; let i = b; }", 1);
        x.begin(1);
        x.go(0);
        Checks.due("a is sure now", x.cell(0), 7);
        becomes(x, "cell a = 4; sure cell b; thread t { a = 7; let i = b; }", 1);
        x.begin(1);
        x.go(0);
        Checks.due("a is not sure now", x.cell(0), 4);
    }

    /** Texts of many sums, one after the other: what they leave behind would be too much for any row. */
    private static void manyTexts() {
        Checks.says("THE TEXT is read and judged: how many threads it has");
        ScheduleHouse x = new ScheduleHouse();
        StringBuilder sums = new StringBuilder("cell a; thread t { let i = 0; ");
        for (int k = 0; k < 20; k++) {
            sums.append("i = i * 2 + ").append(k).append(" - i; ");
        }
        String text = sums + "a = i; } finally a == 190;";
        Checks.feed(x, text);
        for (int k = 0; k < 30; k++) {
            Checks.due("compile " + k, x.compile(), 1);
            x.begin(k % 2);
            x.go(0);
            Checks.due("what it wrote", x.act(0, 4), 190);
            x.attempt(0, 5);
            Checks.due("the finally holds", x.finding(0, 4), -1);
        }
    }

    private static void acts(ScheduleHouse x, int... threads) {
        for (int t : threads) {
            for (int i = 0; i < x.choices(); i++) {
                if (x.choice(i, 0) == t && x.choice(i, 1) == 0) {
                    x.go(i);
                    break;
                }
            }
        }
        Checks.due("all were done", x.run(2), threads.length);
    }

    private static void ordersAreForgotten() {
        Checks.says("A RUN BEGINS: what happened before it is no part of it");
        ScheduleHouse lock = Checks.begun("lock l; thread t { pause; take l; give l; } thread u { take l; }", 0);
        acts(lock, 0, 0, 0, 1);
        Checks.due("by the lock", lock.before(0, 3), true);
        lock.begin(0);
        acts(lock, 0, 1);
        Checks.due("not yet given in this run", lock.before(0, 1), false);
        ScheduleHouse sure = Checks.begun("sure cell s; thread t { pause; s = 1; } thread u { let i = s; }", 0);
        acts(sure, 0, 0, 1);
        Checks.due("by the sure cell", sure.before(0, 2), true);
        sure.begin(0);
        acts(sure, 0, 1);
        Checks.due("not yet written in this run", sure.before(0, 1), false);
        ScheduleHouse start = Checks.begun("thread t { pause; pause; start u; } idle thread u { pause; } thread v { start u; }", 0);
        acts(start, 0, 0, 0, 1);
        Checks.due("by its start", start.before(0, 3), true);
        start.begin(0);
        acts(start, 0, 2, 1);
        Checks.due("started by another in this run", start.before(0, 2), false);
        Checks.due("started by another in this run", start.before(1, 2), true);
        ScheduleHouse join = Checks.begun("thread t { pause; } thread u { join t; } thread v { pause; }", 0);
        acts(join, 0, 1);
        Checks.due("by the join", join.before(0, 1), true);
        join.begin(0);
        acts(join, 0, 2);
        Checks.due("v is not u", join.before(0, 1), false);
        ScheduleHouse again = Checks.begun("lock l; thread t { pause; take l; give l; } thread u { take l; }", 0);
        acts(again, 0, 0, 0, 1);
        again.again(1);
        again.go(1);
        Checks.due("again() begins anew, too", again.before(0, 1), false);
    }

    private static void clocksAreForgotten() {
        Checks.says("whether ACT a HAPPENS BEFORE ACT b, of the run that there is");
        ScheduleHouse x = Checks.begun("sure cell s; thread t { s = 1; } thread u { pause; let i = s; } thread v { pause; }", 0);
        acts(x, 0, 1, 1);
        Checks.due("the read is behind the write", x.before(0, 2), true);
        x.begin(0);
        acts(x, 0, 2, 1);
        Checks.due("the pause is not", x.before(0, 2), false);
        Checks.due("the pause is not", x.before(1, 2), false);
        ScheduleHouse y = Checks.begun("cell a; lock l; thread t { take l; a = 1; give l; } thread u { take l; a = 2; } thread v { pause; a = 3; }", 0);
        acts(y, 0, 0, 0, 1, 1);
        Checks.due("no race", y.run(5), 0);
        y.begin(0);
        acts(y, 0, 0, 0, 2, 2);
        Checks.due("a race", y.run(5), 1);
        Checks.due("earlier", y.race(0, 0), 1);
        Checks.due("later", y.race(0, 1), 4);
    }

    private static void historiesAreForgotten() {
        Checks.says("Whether the run's HISTORY is LINEAR");
        ScheduleHouse x = Checks.begun("thread t { call 0, 5; back 0; } thread u { call 1, 0; back 5; }", 0);
        acts(x, 0, 0);
        Checks.due("the write", x.linear(0), 1);
        x.begin(0);
        acts(x, 1, 1);
        Checks.due("the read without it", x.linear(0), -4);
        x.begin(0);
        acts(x, 0, 0, 1, 1);
        Checks.due("the read behind it", x.linear(0), 1);
        // one behind the other, then at once
        ScheduleHouse y = Checks.begun("thread t { call 0, 5; back 0; } thread u { call 1, 0; back 0; }", 0);
        acts(y, 0, 0, 1, 1);
        Checks.due("one behind the other", y.linear(0), -6);
        y.begin(0);
        acts(y, 0, 1, 0, 1);
        Checks.due("at once", y.linear(0), 1);
        y.begin(0);
        acts(y, 0, 0, 1, 1);
        Checks.due("one behind the other again", y.linear(0), -6);
        Checks.due("asked once more", y.linear(0), -6);
        Checks.due("asked of a stack", y.linear(1), -6);
        Checks.due("asked once more", y.linear(0), -6);
    }

    private static void callsAreForgotten() {
        Checks.says("6 CALLS begun");
        ScheduleHouse x = Checks.begun("thread t { call 0, 5; pause; } thread u { call 1, 0; back 5; }", 0);
        acts(x, 0, 1, 1);
        Checks.due("calls", x.run(6), 2);
        x.again(1);
        Checks.due("calls", x.run(6), 1);
        x.begin(0);
        Checks.due("calls", x.run(6), 0);
        acts(x, 0);
        Checks.due("it is in no call at first", x.thread(0, 0), 1);
        ScheduleHouse y = Checks.begun("thread t { while 1 { call 2, 1; back 0; } }", 0);
        y.draw(1, 400);
        Checks.due("200 calls", y.run(6), 200);
        Checks.due("too many", y.linear(0), -1);
        y.again(24);
        Checks.due("12 calls", y.run(6), 12);
        Checks.due("12 calls", y.linear(0), -6);
    }

    private static void tryingsAreForgotten() {
        Checks.says("of a way's latest trying");
        ScheduleHouse x = new ScheduleHouse();
        String wide = "cell a; cell b; cell c; lock k; lock l; thread t { take k; take l; a = 1; b = 2; give k; take k; c = 3; } thread u { a = 5; b = 6; assert 0; } always a < 5; finally 0;";
        String narrow = "cell a; lock l; thread t { lock l { a = 7; } } always 1; finally 1;";
        int[] states = new int[4];
        for (int round = 0; round < 6; round++) {
            Checks.due("compile", other(x, round % 2 == 0 ? wide : narrow).compile(), round % 2 == 0 ? 2 : 1);
            for (int way = 0; way < 2; way++) {
                int many = x.attempt(way, 3000);
                int k = round % 2 * 2 + way;
                if (round < 2) {
                    states[k] = many;
                }
                Checks.due("states", many, states[k]);
                Checks.due("wholly", x.tried(way, 1), 0);
                Checks.due("failed", x.finding(way, 9) >= 0, round % 2 == 0);
                Checks.due("always", x.finding(way, 0) >= 0, round % 2 == 0);
                Checks.due("finally", x.finding(way, 4) >= 0, round % 2 == 0);
                Checks.due("ring", x.ring(way), round % 2 == 0 ? 2 : 0);
                Checks.due("common", x.common(way, 0), round % 2 == 0 ? 0 : 1);
                if (round % 2 == 1) {
                    Checks.due("outcomes", x.tried(way, 3), 1);
                    Checks.due("a", x.outcome(way, 0, 0), 7);
                }
            }
        }
        // what an ACT of the text before had at the same place
        for (String before : new String[] {"cell c; thread t { let i = cas c, 1 + 1, 2; }", "cell c; thread t { let i = cas c, 1 + 1, 2; i = i + 1; c = i; }",
            "cell c[2]; thread t { c[1 + 1] = 2; }", "cell c; lock l; thread t { take l; wakeall l; }"}) {
            other(x, before).compile();
            other(x, "cell c; cell r[2]; thread t { r[0] = 1; c = 1 / 0; } thread u { r[0] = 2; }").compile();
            x.attempt(0, 3000);
            Checks.due("it fails not", x.finding(0, 10), 0);
            other(x, before).compile();
            other(x, "cell c; thread t { c = 1; c = 1 / 0; } thread u { let i = c; }").compile();
            x.attempt(0, 3000);
            Checks.due("it fails not", x.finding(0, 10), 0);
        }
        Checks.due("narrow, way 0", states[2], 4);
        Checks.due("narrow, way 1", states[3], 5);
    }

    /** 24 CELLS, 6 locks, 6 threads of 8 LOCALS, 4 always and finally: all rows are full at once. */
    private static void theMostOfAll() {
        Checks.says("24 CELLS, 6 locks, 6 threads, 8 LOCALS in a thread, 8 LATE ones of each");
        StringBuilder b = new StringBuilder("cell p[8] = 1; cell q[8]; cell r[8]; ");
        for (int l = 0; l < 6; l++) {
            b.append("lock l").append(l).append("; ");
        }
        for (int t = 0; t < 6; t++) {
            b.append("thread t").append(t).append(" { take l").append(t).append("; let a = self; let b = a; let c = a; let d = a; let e = a; let f = a; let g = 8; let h = 0; ")
                    .append("while h < 8 { r[h] = g; h = h + 1; } fence; h = r[7]; assert h == 8; q[7] = a + f; pause; } ");
        }
        String text = b + "always 1; always 1; always 1; always p[7]; finally 1; finally 1; finally 1; finally q[7] != 10;";
        ScheduleHouse x = Checks.compiled(text);
        Checks.due("attempt", x.attempt(1, 200), 200);
        Checks.due("partly", x.tried(1, 1), 1);
        Checks.due("none failed", x.finding(1, 9), -1);
        Checks.due("common", x.common(1, 0), 63);
        Checks.due("begin", x.begin(1), 6);
        for (int t = 0; t < 6; t++) {
            for (int k = 0; k < 9; k++) {
                x.go(9 * t - t);
            }
        }
        Checks.due("8 late ones of each", x.run(7), 48);
        Checks.due("as many choices", x.choices(), 48);
        for (int t = 0; t < 6; t++) {
            Checks.due("LOCALS", x.thread(t, 3), 8);
            Checks.due("the first", x.local(t, 0), t);
            Checks.due("the last but one", x.local(t, 6), 8);
            Checks.due("the last", x.local(t, 7), 8);
            Checks.due("its lock", x.lock(t, 0), t);
            Checks.due("seen", x.seen(t, 23), 8);
        }
        Checks.due("what came", x.cell(23), 0);
        x.draw(3, 400);
        Checks.due("over", x.run(3), 1);
        Checks.due("not stuck", x.run(4), 0);
        for (int t = 0; t < 6; t++) {
            Checks.due("ended", x.thread(t, 0), 2);
            Checks.due("its lock stays held", x.lock(t, 1), 1);
        }
        for (int c = 16; c < 24; c++) {
            Checks.due("what came", x.cell(c), 8);
        }
    }

    private static void theMostChoices() {
        Checks.says("CHOICES are numbered from 0: by threads; of one thread its ACT, then LATE ones in their order");
        StringBuilder b = new StringBuilder("cell p[8]; cell q[8]; cell r[8]; ");
        for (int t = 0; t < 6; t++) {
            b.append("thread t").append(t).append(" { let i = 7; while i >= 0 { ").append("pqr".charAt(t % 3)).append("[i] = self; i = i - 1; } pause; } ");
        }
        ScheduleHouse x = Checks.begun(b.toString(), 1);
        for (int t = 0; t < 6; t++) {
            for (int k = 0; k < 8; k++) {
                x.go(9 * t);
            }
        }
        Checks.due("54 of them", x.choices(), 54);
        for (int i = 0; i < 54; i++) {
            Checks.due("its thread", x.choice(i, 0), i / 9);
            Checks.due("late", x.choice(i, 1), i % 9 == 0 ? 0 : 1);
            Checks.due("its CELL", x.choice(i, 3), i % 9 == 0 ? -1 : i / 9 % 3 * 8 + 8 - i % 9);
        }
        Checks.badIndex("no 55th", () -> x.choice(54, 0));
        Checks.due("the last one comes", x.go(53), 53);
        Checks.due("r[0]", x.cell(16), 5);
    }

    /** 700 TOKENS in 3000 bytes: the most steps and the most parts of sums that a text can have. */
    private static void longestText() {
        Checks.says("At most: 700 TOKENS");
        ScheduleHouse steps = Checks.begun("thread t { " + "pause; ".repeat(348) + "}", 0);
        Checks.due("all are done", steps.draw(1, 400), 348);
        Checks.due("ended", steps.thread(0, 0), 2);
        ScheduleHouse sum = Checks.begun("thread t { let i = 1" + " + 1".repeat(344) + "; pause; } ", 0);
        Checks.due("345", sum.local(0, 0), 345);
        ScheduleHouse claims = Checks.compiled("always 1" + " + 1".repeat(347) + " == 348; ");
        claims.attempt(0, 1);
        Checks.due("348", claims.finding(0, 0), -1);
        ScheduleHouse ifs = Checks.begun("thread t { " + "if 0 { } ".repeat(173) + "pause; }", 0);
        Checks.due("ifs", ifs.thread(0, 0), 1);
        ScheduleHouse locks = Checks.begun("lock l; thread t { " + "lock l { } ".repeat(173) + "}", 0);
        Checks.due("all are done", locks.draw(1, 400), 346);
        Checks.due("ended", locks.thread(0, 0), 2);
    }
}
