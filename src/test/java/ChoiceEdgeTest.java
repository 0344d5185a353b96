/** The boundary cases of part 4 of the document up to 'At most 400 CHOICES', and of promises 7 to 19. */
public final class ChoiceEdgeTest {
    public static void main(String[] args) {
        beginnings();
        beginAnew();
        atOnceOrLate();
        lateAreSeen();
        lateInOrder();
        onlyWithoutLate();
        endsWithLate();
        numbered();
        choiceTold();
        going();
        overAndStuck();
        mostChoices();
        drawing();
        repeating();
        runTold();
        locksTold();
        threadsTold();
        linesTold();
        localsTold();
        actsTold();
        Checks.end();
    }

    private static void beginnings() {
        Checks.says("A RUN BEGINS: cells have their END (0 without; all cells of a row), locks are free, threads that are not idle are GOING");
        ScheduleHouse x = Checks.compiled("cell a; cell b = 0; cell c = 999999999; cell d = -999999999; cell r[8] = -7; sure cell s[3] = 4; sure cell t; cell v[8]; lock k; lock l;"
                + " thread t0 { pause; } idle thread t1 { pause; } thread t2 { let i = 3; }");
        for (int way = 0; way < 2; way++) {
            Checks.due("choices", x.begin(way), 1);
            Checks.due("its way", x.run(0), way);
            int[] first = {0, 0, 999999999, -999999999};
            for (int c = 0; c < 24; c++) {
                int want = c < 4 ? first[c] : c < 12 ? -7 : c < 15 ? 4 : 0;
                Checks.due("cell " + c, x.cell(c), want);
                Checks.due("seen " + c, x.seen(1, c), want);
            }
            for (int l = 0; l < 2; l++) {
                Checks.due("free", x.lock(l, 0), -1);
                Checks.due("free", x.lock(l, 1), 0);
                Checks.due("none waits", x.lock(l, 2), 0);
            }
            Checks.due("going", x.thread(0, 0), 1);
            Checks.due("asleep", x.thread(1, 0), 0);
            Checks.due("ended at once", x.thread(2, 0), 2);
            int[] run = {way, 0, 0, 0, 0, 0, 0, 0};
            for (int what = 0; what < 8; what++) {
                Checks.due("run(" + what + ")", x.run(what), run[what]);
            }
        }
        Checks.says("IllegalStateException: nothing is compiled; IllegalArgumentException: way");
        for (int way : new int[] {-1, 2, 3, Integer.MAX_VALUE, Integer.MIN_VALUE}) {
            Checks.badArgument("begin(" + way + ")", () -> x.begin(way));
            Checks.noState("begin(" + way + ") of nothing", () -> new ScheduleHouse().begin(way));
        }
        Checks.due("the run before it is there", x.run(0), 1);
        Checks.noState("begin(1) of nothing", () -> new ScheduleHouse().begin(1));
    }

    private static void beginAnew() {
        Checks.says("A RUN BEGINS by a way (0, 1): how many CHOICES there are");
        ScheduleHouse x = Checks.begun("cell a = 4; lock l; thread t { let i = a; lock l { a = 9; call 1, 1; a = 8; wait l; } } thread u { pause; }", 1);
        x.draw(5, 400);
        for (int way = 0; way < 2; way++) {
            Checks.due("begin", x.begin(way), 2);
            Checks.due("a", x.cell(0), 4);
            Checks.due("free", x.lock(0, 0), -1);
            Checks.due("none waits", x.lock(0, 2), 0);
            Checks.due("going", x.thread(0, 0), 1);
            Checks.due("no locals", x.thread(0, 3), 0);
            for (int what = 1; what < 8; what++) {
                Checks.due("run(" + what + ")", x.run(what), 0);
            }
            x.draw(9, 400);
        }
    }

    private static void atOnceOrLate() {
        Checks.says("0 each WRITE comes to its cell at once. 1 a WRITE of a cell that is not sure goes to THE LATE ones of its thread");
        String text = "cell a; sure cell s; cell r[2]; sure cell q[2]; thread t { X pause; }";
        String[] writes = {"a = 5;", "s = 5;", "r[1] = 5;", "q[1] = 5;"};
        int[] cells = {0, 1, 3, 5};
        for (int k = 0; k < 4; k++) {
            for (int way = 0; way < 2; way++) {
                ScheduleHouse x = Checks.begun(text.replace("X", writes[k]), way);
                x.go(0);
                boolean late = way == 1 && k % 2 == 0;
                Checks.due("what came: " + writes[k], x.cell(cells[k]), late ? 0 : 5);
                Checks.due("what it sees: " + writes[k], x.seen(0, cells[k]), 5);
                Checks.due("late ones: " + writes[k], x.run(7), late ? 1 : 0);
                Checks.due("late ones: " + writes[k], x.thread(0, 2), late ? 1 : 0);
                Checks.due("choices: " + writes[k], x.choices(), late ? 2 : 1);
            }
        }
    }

    private static void lateAreSeen() {
        Checks.says("a READ sees the latest of its own thread's LATE ones of that cell, if there is one, else what came to the cell");
        ScheduleHouse x = Checks.begun("cell a = 1; cell b = 2; thread t { a = 3; a = 4; b = 5; let i = a; i = b; a = 6; i = a; } thread u { let i = a; let j = b; pause; }", 1);
        for (int k = 0; k < 5; k++) {
            x.go(0);
        }
        Checks.due("the latest", x.act(3, 3), 4);
        Checks.due("of that cell", x.act(4, 3), 5);
        x.go(0);
        Checks.due("a, seen by t", x.seen(0, 0), 6);
        Checks.due("b, seen by t", x.seen(0, 1), 5);
        Checks.due("a, seen by u", x.seen(1, 0), 1);
        Checks.due("b, seen by u", x.seen(1, 1), 2);
        // t: its read, a = 3, b = 5; u: its read
        x.go(3);
        Checks.due("u reads what came", x.act(6, 3), 1);
        x.go(1);
        Checks.due("a came", x.cell(0), 3);
        Checks.due("t sees its latest", x.seen(0, 0), 6);
        Checks.due("u sees what came", x.seen(1, 0), 3);
        x.go(2);
        Checks.due("b came", x.cell(1), 5);
        x.go(0);
        Checks.due("t reads its latest", x.act(7, 3), 6);
        ScheduleHouse y = Checks.begun("cell a = 1; thread t { a = 3; pause; let i = a; } thread u { a = 7; }", 1);
        y.go(0);
        y.go(1);
        y.go(1);
        y.go(1);
        Checks.due("another's write came later", y.cell(0), 7);
        y.go(0);
        y.go(0);
        Checks.due("then it is what came to the cell", y.act(3, 3), 7);
    }

    private static void lateInOrder() {
        Checks.says("LATE ones come by choice, in any order, but those of one cell in their order");
        String text = "cell a; cell b; cell c; thread t { a = 1; b = 2; a = 3; c = 4; b = 5; }";
        ScheduleHouse x = Checks.begun(text, 1);
        for (int k = 0; k < 5; k++) {
            x.go(0);
        }
        int[] first = {0, 1, 2};
        Checks.due("the first of each cell", x.choices(), 3);
        for (int i = 0; i < 3; i++) {
            Checks.due("its cell", x.choice(i, 3), first[i]);
            Checks.due("a late one", x.choice(i, 1), 1);
            Checks.due("of t", x.choice(i, 0), 0);
            Checks.due("a WRITE", x.choice(i, 2), 1);
            Checks.due("wakes none", x.choice(i, 4), -1);
        }
        Checks.due("c first", x.go(2), 2);
        Checks.due("c", x.cell(2), 4);
        Checks.due("then b = 2", x.go(1), 2);
        Checks.due("b", x.cell(1), 2);
        // a = 1, a = 3, b = 5 are left
        Checks.due("a", x.choice(0, 3), 0);
        Checks.due("b", x.choice(1, 3), 1);
        Checks.due("then b = 5", x.go(1), 1);
        Checks.due("b", x.cell(1), 5);
        Checks.due("then a = 1", x.go(0), 1);
        Checks.due("a", x.cell(0), 1);
        Checks.due("then a = 3", x.go(0), 0);
        Checks.due("a", x.cell(0), 3);
        Checks.due("no acts", x.run(2), 5);
        Checks.due("choices", x.run(1), 10);
        // of a row each CELL for itself
        ScheduleHouse y = Checks.begun("cell r[2]; thread t { r[0] = 1; r[1] = 2; r[0] = 3; }", 1);
        for (int k = 0; k < 3; k++) {
            y.go(0);
        }
        Checks.due("two", y.choices(), 2);
        Checks.due("r[1]", y.choice(1, 3), 1);
    }

    private static void onlyWithoutLate() {
        Checks.says("In way 1 these ACTS can be done only when the thread has no LATE ones");
        String defs = "cell a; cell b; sure cell s; lock l; idle thread u { } thread v { } thread t { take l; call 1, 1; a = 1; b = 1; ";
        String[] wait = {"s = 1;", "let i = swap b, 1;", "let i = add b, 1;", "let i = cas b, 1, 2;", "let i = swap s, 1;", "take l;", "give l;", "wait l;", "wake l;",
            "wakeall l;", "start u;", "join v;", "fence;"};
        String[] not = {"let i = a;", "let i = s;", "a = 2;", "pause;", "back 1;"};
        for (String s : wait) {
            ScheduleHouse x = Checks.begun(defs + s + " pause; }", 1);
            for (int k = 0; k < 4; k++) {
                x.go(0);
            }
            Checks.due("two late ones: " + s, x.choices(), 2);
            x.go(0);
            Checks.due("one late one: " + s, x.choices(), 1);
            Checks.due("one late one: " + s, x.choice(0, 1), 1);
            x.go(0);
            Checks.due("then its act: " + s, x.choices(), 1);
            Checks.due("then its act: " + s, x.choice(0, 1), 0);
        }
        for (String s : not) {
            ScheduleHouse x = Checks.begun(defs + s + " pause; }", 1);
            for (int k = 0; k < 4; k++) {
                x.go(0);
            }
            Checks.due("its act, and two late ones: " + s, x.choices(), 3);
            Checks.due("its act: " + s, x.choice(0, 1), 0);
        }
        // another thread's late ones do not matter
        ScheduleHouse x = Checks.begun("cell a; thread t { a = 1; pause; } thread u { fence; }", 1);
        x.go(0);
        Checks.due("u's fence can be done", x.choices(), 3);
    }

    private static void endsWithLate() {
        Checks.says("a thread without any ENDS or FAILS all the same with LATE ones");
        String[] bodies = {"", "end;", "assert 0;", "let i = 1 / 0;", "back 1;", "let i = r[2];", "r[2] = 1;", "a = 1 / 0;", "while 1 { }"};
        int[] state = {2, 2, 3, 3, 3, 3, 3, 3, 3};
        for (int k = 0; k < bodies.length; k++) {
            ScheduleHouse x = Checks.begun("cell a; cell r[2]; thread t { a = 1; " + bodies[k] + " }", 1);
            x.go(0);
            if (x.thread(0, 0) == 1) {
                x.go(0);
            }
            Checks.due("behind " + bodies[k], x.thread(0, 0), state[k]);
            Checks.due("late still", x.thread(0, 2), 1);
            Checks.due("it may come", x.choices(), 1);
            Checks.due("not over", x.run(3), 0);
            x.go(0);
            Checks.due("it came", x.cell(0), 1);
            Checks.due("over", x.run(3), 1);
            Checks.due("not stuck", x.run(4), 0);
        }
    }

    private static void numbered() {
        Checks.says("CHOICES are numbered from 0: by threads; of one thread its ACT, then LATE ones in their order");
        ScheduleHouse x = Checks.begun("cell a; cell b; thread t { b = 1; a = 1; pause; } idle thread s { } thread u { a = 2; b = 2; fence; } thread v { let i = b; }", 1);
        x.go(0);
        x.go(0);
        // t: pause, late b, late a; u: its write; v: its read
        int u = 3;
        x.go(u);
        x.go(u);
        int[][] want = {{0, 0, 12, -1}, {0, 1, 1, 1}, {0, 1, 1, 0}, {2, 1, 1, 0}, {2, 1, 1, 1}, {3, 0, 0, 1}};
        Checks.due("choices", x.choices(), want.length);
        for (int i = 0; i < want.length; i++) {
            for (int what = 0; what < 4; what++) {
                Checks.due("choice(" + i + ", " + what + ")", x.choice(i, what), want[i][what]);
            }
        }
    }

    private static void choiceTold() {
        Checks.says("IndexOutOfBoundsException: there is none such, or another what");
        ScheduleHouse x = Checks.begun("cell a; thread t { pause; } thread u { a = 1; }", 0);
        for (int i : new int[] {-1, 2, 3, Integer.MAX_VALUE, Integer.MIN_VALUE}) {
            for (int what = 0; what < 5; what++) {
                int w = what;
                Checks.badIndex("choice(" + i + ", " + what + ")", () -> x.choice(i, w));
            }
        }
        for (int what : new int[] {-1, 5, 6, Integer.MAX_VALUE, Integer.MIN_VALUE}) {
            Checks.badIndex("choice(0, " + what + ")", () -> x.choice(0, what));
            Checks.badIndex("choice(1, " + what + ")", () -> x.choice(1, what));
        }
        x.go(0);
        Checks.badIndex("one is left", () -> x.choice(1, 0));
        Checks.due("one is left", x.choice(0, 0), 1);
        x.go(0);
        Checks.badIndex("none is left", () -> x.choice(0, 0));
        Checks.due("none is left", x.choices(), 0);
    }

    private static void going() {
        Checks.says("CHOICE i is done: how many there are then. IndexOutOfBoundsException: there is none such");
        ScheduleHouse x = Checks.begun("cell a; thread t { a = 1; a = 2; } thread u { a = 3; start v; } idle thread v { pause; }", 0);
        for (int i : new int[] {-1, 2, Integer.MAX_VALUE, Integer.MIN_VALUE}) {
            Checks.badIndex("go(" + i + ")", () -> x.go(i));
        }
        Checks.due("nothing was done", x.run(1), 0);
        Checks.due("the last one", x.go(1), 2);
        Checks.due("a", x.cell(0), 3);
        Checks.due("more than before", x.go(1), 2);
        Checks.due("v goes", x.thread(2, 0), 1);
        Checks.due("go", x.go(1), 1);
        Checks.due("go", x.go(0), 1);
        Checks.due("go", x.go(0), 0);
        Checks.badIndex("over", () -> x.go(0));
        Checks.due("done", x.run(1), 5);
    }

    private static void overAndStuck() {
        Checks.says("It is OVER when there is no CHOICE: STUCK if a thread is GOING then");
        int[][] want = {{1, 0}, {1, 1}, {1, 0}, {1, 0}, {0, 0}, {1, 1}, {1, 0}};
        String[] texts = {"", "thread t { join t; }", "idle thread t { pause; }", "thread t { assert 0; }", "thread t { pause; }", "thread t { } thread u { join u; }",
            "thread t { } thread u { assert 0; } idle thread v { join v; }"};
        for (int k = 0; k < texts.length; k++) {
            for (int way = 0; way < 2; way++) {
                ScheduleHouse x = Checks.begun(texts[k], way);
                Checks.due("over: " + texts[k], x.run(3), want[k][0]);
                Checks.due("stuck: " + texts[k], x.run(4), want[k][1]);
            }
        }
        ScheduleHouse x = Checks.begun("cell a; thread t { a = 1; join t; }", 1);
        x.go(0);
        Checks.due("a late one is a CHOICE", x.run(3), 0);
        Checks.due("a late one is a CHOICE", x.run(4), 0);
        x.go(0);
        Checks.due("over", x.run(3), 1);
        Checks.due("stuck", x.run(4), 1);
    }

    private static void mostChoices() {
        Checks.says("At most 400 CHOICES ... IllegalStateException: there is no run, or 400 were done");
        ScheduleHouse x = Checks.begun("thread t { while 1 { pause; } }", 0);
        for (int k = 0; k < 399; k++) {
            x.go(0);
        }
        Checks.due("the 400th", x.go(0), 1);
        Checks.noState("the 401st", () -> x.go(0));
        Checks.noState("none such, and 400", () -> x.go(1));
        Checks.noState("none such, and 400", () -> x.go(-1));
        Checks.due("done", x.run(1), 400);
        Checks.due("acts", x.run(2), 400);
        Checks.due("choices are told still", x.choices(), 1);
        Checks.due("choices are told still", x.choice(0, 2), 12);
        Checks.due("not over", x.run(3), 0);
        Checks.due("none is drawn", x.draw(1, 400), 0);
        Checks.due("the last act", x.act(399, 1), 12);
        Checks.badIndex("no act 400", () -> x.act(400, 1));
        Checks.due("first before last", x.before(0, 399), true);
        Checks.due("again", x.again(399), 1);
        Checks.due("room for one", x.draw(1, 400), 1);
        ScheduleHouse y = Checks.begun("cell a; thread t { while 1 { a = 1; fence; } }", 1);
        Checks.due("late ones are CHOICES", y.draw(1, 400), 400);
        Checks.due("late ones are no ACTS", y.run(2), 267);
        Checks.noState("the 401st", () -> y.go(0));
        ScheduleHouse z = Checks.begun("thread t { let i = 0; while i < 400 { pause; i = i + 1; } }", 0);
        z.draw(1, 400);
        Checks.due("over with the 400th", z.run(3), 1);
        Checks.noState("400, and none such", () -> z.go(0));
    }

    private static void drawing() {
        Checks.says("each is number D modulo how many there are, D being the next of a seed: it becomes seed * 1103515245 + 12345 (32 bits), D is its bits 16 to 30");
        StringBuilder six = new StringBuilder();
        for (int t = 0; t < 6; t++) {
            six.append("thread t").append(t).append(" { while 1 { pause; } } ");
        }
        // of the seed 1: 16838, 5758, 10113, 17515, 31051, 5627; the second one has bit 31
        int[] want = {16838 % 6, 5758 % 6, 10113 % 6, 17515 % 6, 31051 % 6, 5627 % 6};
        ScheduleHouse x = Checks.begun(six.toString(), 0);
        Checks.due("drawn", x.draw(1, 6), 6);
        for (int k = 0; k < 6; k++) {
            Checks.due("D " + k, x.act(k, 0), want[k]);
        }
        Checks.due("drawn behind them", x.draw(1, 6), 6);
        for (int k = 0; k < 6; k++) {
            Checks.due("each draw has its own seed " + k, x.act(6 + k, 0), want[k]);
        }
        for (int seed : new int[] {0, -1, 7, Integer.MAX_VALUE, Integer.MIN_VALUE, 123456789}) {
            x.begin(0);
            x.draw(seed, 20);
            long s = seed & 0xffffffffL;
            for (int k = 0; k < 20; k++) {
                s = (s * 1103515245L + 12345L) & 0xffffffffL;
                Checks.due("seed " + seed, x.act(k, 0), (s >> 16 & 0x7fff) % 6);
            }
        }
        Checks.says("Up to n (0 .. 400) CHOICES ... as long as there is one, and not 400 were done ... How many were done ... IllegalArgumentException: n");
        for (int n : new int[] {-1, 401, Integer.MAX_VALUE, Integer.MIN_VALUE}) {
            Checks.badArgument("draw(1, " + n + ")", () -> x.draw(1, n));
        }
        Checks.due("nothing was done", x.run(1), 20);
        Checks.due("draw 0", x.draw(1, 0), 0);
        Checks.due("draw 0", x.run(1), 20);
        Checks.due("draw 1", x.draw(1, 1), 1);
        Checks.due("draw up to 400", x.draw(1, 400), 379);
        Checks.due("draw behind 400", x.draw(1, 400), 0);
        Checks.due("draw behind 400", x.draw(1, 0), 0);
        x.begin(0);
        Checks.due("draw 400", x.draw(1, 400), 400);
        ScheduleHouse y = Checks.begun("thread t { pause; pause; pause; }", 0);
        Checks.due("as long as there is one", y.draw(1, 400), 3);
        Checks.due("none", y.draw(1, 400), 0);
        Checks.due("none", y.draw(1, 0), 0);
        Checks.badArgument("n, though there is none", () -> y.draw(1, 401));
    }

    private static void repeating() {
        Checks.says("The run begins anew by its way, and its first n CHOICES are done again: how many there are then");
        ScheduleHouse x = Checks.begun("cell a; thread t { a = 1; a = 2; pause; } thread u { a = 3; }", 1);
        int[] path = {1, 0, 1, 1, 0};
        int[] many = new int[6];
        int[] cell = new int[6];
        many[0] = x.choices();
        for (int k = 0; k < 5; k++) {
            many[k + 1] = x.go(path[k]);
            cell[k + 1] = x.cell(0);
        }
        Checks.says("IllegalArgumentException: n is not 0 .. how many were done");
        for (int n : new int[] {-1, 6, 400, 401, Integer.MAX_VALUE, Integer.MIN_VALUE}) {
            Checks.badArgument("again(" + n + ")", () -> x.again(n));
        }
        Checks.due("as it was", x.run(1), 5);
        for (int n = 5; n >= 0; n--) {
            Checks.due("again(" + n + ")", x.again(n), many[n]);
            Checks.due("the cell", x.cell(0), cell[n]);
            Checks.due("done", x.run(1), n);
            Checks.due("way", x.run(0), 1);
            int one = n + 1;
            Checks.badArgument("no more than were done then", () -> x.again(one));
        }
        Checks.due("again(0) of nothing done", x.again(0), many[0]);
    }

    private static void runTold() {
        Checks.says("Of the run: 0 its way, 1 CHOICES done, 2 ACTS done, 3 whether it is OVER, 4 STUCK, 5 RACES, 6 CALLS begun, 7 LATE ones that have not come");
        ScheduleHouse x = Checks.begun("cell a; cell b; thread t { a = 1; b = 1; call 0, 1; join t; } thread u { a = 2; call 1, 1; back 1; call 2, 1; }", 1);
        int[] path = {0, 0, 0, 2, 2, 2, 2};
        for (int i : path) {
            x.go(i);
        }
        int[] want = {1, 7, 7, 0, 0, 1, 3, 3};
        for (int what = 0; what < 8; what++) {
            Checks.due("run(" + what + ")", x.run(what), want[what]);
        }
        x.go(0);
        Checks.due("one came", x.run(7), 2);
        Checks.due("a choice", x.run(1), 8);
        Checks.due("no act", x.run(2), 7);
        x.draw(1, 400);
        int[] last = {1, 10, 7, 1, 1, 1, 3, 0};
        for (int what = 0; what < 8; what++) {
            Checks.due("run(" + what + ")", x.run(what), last[what]);
        }
        Checks.says("IndexOutOfBoundsException: another what");
        for (int what : new int[] {-1, 8, 9, Integer.MAX_VALUE, Integer.MIN_VALUE}) {
            Checks.badIndex("run(" + what + ")", () -> x.run(what));
        }
        Checks.says("IndexOutOfBoundsException: no such CELL");
        for (int c : new int[] {-1, 2, 24, Integer.MAX_VALUE, Integer.MIN_VALUE}) {
            Checks.badIndex("cell(" + c + ")", () -> x.cell(c));
            Checks.badIndex("seen(0, " + c + ")", () -> x.seen(0, c));
            Checks.badIndex("seen(" + c + ", 0)", () -> x.seen(c, 0));
        }
        Checks.due("the last cell", x.cell(1), 1);
        Checks.due("the last thread", x.seen(1, 1), 1);
        ScheduleHouse none = Checks.begun("thread t { }", 0);
        Checks.badIndex("no cells at all", () -> none.cell(0));
        Checks.badIndex("no cells at all", () -> none.seen(0, 0));
        ScheduleHouse no = Checks.begun("cell a; lock l;", 0);
        Checks.badIndex("no threads at all", () -> no.seen(0, 0));
        Checks.badIndex("no threads at all", () -> no.thread(0, 0));
        Checks.badIndex("no threads at all", () -> no.local(0, 0));
    }

    private static void locksTold() {
        Checks.says("Of a lock: the thread that holds it (what = 0; NONE), how often (1), how many threads WAIT for it, not woken yet (2)");
        ScheduleHouse x = Checks.begun("lock k; lock l; thread t { take l; wait l; } thread u { take l; wait l; } thread v { take l; take l; wake l; }", 0);
        int[][] want = {{-1, 0, 0}, {0, 1, 0}, {-1, 0, 1}, {1, 1, 1}, {-1, 0, 2}, {2, 1, 2}, {2, 2, 2}, {2, 2, 1}};
        for (int k = 0; k < want.length; k++) {
            for (int what = 0; what < 3; what++) {
                Checks.due("lock(1, " + what + ")", x.lock(1, what), want[k][what]);
                Checks.due("lock(0, " + what + ")", x.lock(0, what), what == 0 ? -1 : 0);
            }
            if (k < want.length - 1) {
                x.go(0);
            }
        }
        Checks.says("IndexOutOfBoundsException: none such, or another what");
        for (int l : new int[] {-1, 2, 6, Integer.MAX_VALUE, Integer.MIN_VALUE}) {
            Checks.badIndex("lock(" + l + ", 0)", () -> x.lock(l, 0));
        }
        for (int what : new int[] {-1, 3, 4, Integer.MAX_VALUE, Integer.MIN_VALUE}) {
            Checks.badIndex("lock(0, " + what + ")", () -> x.lock(0, what));
        }
        ScheduleHouse none = Checks.begun("thread t { }", 0);
        Checks.badIndex("no locks at all", () -> none.lock(0, 0));
    }

    private static void threadsTold() {
        Checks.says("Of a thread: 0 ASLEEP, 1 GOING, 2 ENDED, 3 FAILED, its number when FAILED, LATE ones, LOCALS that are known (of GOING and FAILED ones), the LINE");
        ScheduleHouse x = Checks.begun("cell a;\nidle thread s { let i = 1;\n pause; }\nthread t { let i = 1; let j = 2;\n a = 1; a = 2; assert 0; }\nthread u { let i = 1; end; }", 1);
        int[][] want = {{0, 0, 0, 0, 0}, {1, 0, 0, 2, 5}, {2, 0, 0, 0, 0}};
        for (int t = 0; t < 3; t++) {
            for (int what = 0; what < 5; what++) {
                Checks.due("thread(" + t + ", " + what + ")", x.thread(t, what), want[t][what]);
            }
        }
        x.go(0);
        Checks.due("late", x.thread(1, 2), 1);
        x.go(0);
        int[] failed = {3, 5, 2, 2, 0};
        for (int what = 0; what < 5; what++) {
            Checks.due("failed: " + what, x.thread(1, what), failed[what]);
        }
        Checks.says("IndexOutOfBoundsException: none such, or another what");
        for (int t : new int[] {-1, 3, 6, Integer.MAX_VALUE, Integer.MIN_VALUE}) {
            Checks.badIndex("thread(" + t + ", 0)", () -> x.thread(t, 0));
        }
        for (int what : new int[] {-1, 5, 6, Integer.MAX_VALUE, Integer.MIN_VALUE}) {
            Checks.badIndex("thread(0, " + what + ")", () -> x.thread(0, what));
        }
    }

    private static void linesTold() {
        Checks.says("the LINE of the S of its next ACT (of a GIVE its lock's S, of a RETAKE its wait; 0 if it is not GOING)");
        ScheduleHouse x = Checks.begun("lock l; cell r[2];\nthread t { if 1 {\n lock\n l\n {\n take l;\n give\n l;\n let i =\n r[\n 0]; wait\n l; } } r[1]\n = 2; }"
                + "\nthread u {\n lock l { wakeall l; } }", 0);
        int[] lines = {3, 6, 7, 9, 11, 11};
        for (int k = 0; k < 5; k++) {
            Checks.due("line of act " + k, x.thread(0, 4), lines[k]);
            x.go(0);
        }
        Checks.due("of a RETAKE its wait, though it is not woken", x.thread(0, 4), 11);
        Checks.due("lock's line", x.thread(1, 4), 15);
        x.go(0);
        x.go(0);
        Checks.due("of a GIVE its lock's S", x.thread(1, 4), 15);
        x.go(0);
        Checks.due("not going", x.thread(1, 4), 0);
        Checks.due("of a RETAKE its wait", x.thread(0, 4), 11);
        x.go(0);
        Checks.due("of a GIVE its lock's S", x.thread(0, 4), 3);
        x.go(0);
        Checks.due("of a row's write", x.thread(0, 4), 12);
    }

    private static void localsTold() {
        Checks.says("The value of a thread's LOCAL i (of those that are known, as they were told)");
        ScheduleHouse x = Checks.begun("cell c; thread t { if 1 { let z = 9; } let a = 1; if 1 { let b = 2; if 1 { let a = 3; let d = 4; pause; } let e = 5; pause; } let f = 6; pause; }"
                + " idle thread u { let i = 1; pause; } thread v { let i = 7; assert 0; } thread w { let i = 8; }", 0);
        int[][] want = {{1, 2, 3, 4}, {1, 2, 5}, {1, 6}};
        for (int k = 0; k < 3; k++) {
            Checks.due("known", x.thread(0, 3), want[k].length);
            for (int i = 0; i < want[k].length; i++) {
                Checks.due("local " + i, x.local(0, i), want[k][i]);
            }
            int behind = want[k].length;
            Checks.badIndex("one too many", () -> x.local(0, behind));
            Checks.badIndex("-1", () -> x.local(0, -1));
            x.go(0);
        }
        Checks.badIndex("of an ended one", () -> x.local(0, 0));
        Checks.badIndex("of one asleep", () -> x.local(1, 0));
        Checks.due("of a failed one", x.local(2, 0), 7);
        Checks.badIndex("of a failed one", () -> x.local(2, 1));
        Checks.badIndex("of an ended one", () -> x.local(3, 0));
        for (int t : new int[] {-1, 4, Integer.MAX_VALUE, Integer.MIN_VALUE}) {
            Checks.badIndex("local(" + t + ", 0)", () -> x.local(t, 0));
        }
        Checks.badIndex("local(2, most)", () -> x.local(2, Integer.MAX_VALUE));
        ScheduleHouse y = Checks.begun("thread t { let a = 1; let b = 2; let c = 3; let d = 4; let e = 5; let f = 6; let g = 7; let h = 8; pause; }", 0);
        Checks.due("eight", y.thread(0, 3), 8);
        for (int i = 0; i < 8; i++) {
            Checks.due("local " + i, y.local(0, i), i + 1);
        }
        Checks.badIndex("local 8", () -> y.local(0, 8));
    }

    private static void actsTold() {
        Checks.says("of ACT a: IndexOutOfBoundsException: none such, or another what");
        ScheduleHouse x = Checks.begun("cell a; thread t { a = 3; let i = a; pause; }", 1);
        Checks.badIndex("none yet", () -> x.act(0, 0));
        x.go(0);
        x.go(1);
        x.go(0);
        for (int a : new int[] {-1, 2, 3, 400, Integer.MAX_VALUE, Integer.MIN_VALUE}) {
            Checks.badIndex("act(" + a + ", 0)", () -> x.act(a, 0));
            Checks.badIndex("before(" + a + ", 0)", () -> x.before(a, 0));
            Checks.badIndex("before(0, " + a + ")", () -> x.before(0, a));
        }
        for (int what : new int[] {-1, 5, Integer.MAX_VALUE, Integer.MIN_VALUE}) {
            Checks.badIndex("act(0, " + what + ")", () -> x.act(0, what));
        }
        int[][] want = {{0, 1, 0, 0, 3}, {0, 0, 0, 3, 0}};
        for (int a = 0; a < 2; a++) {
            for (int what = 0; what < 5; what++) {
                Checks.due("act(" + a + ", " + what + ")", x.act(a, what), want[a][what]);
            }
        }
        x.begin(1);
        Checks.badIndex("none again", () -> x.act(0, 0));
    }
}
