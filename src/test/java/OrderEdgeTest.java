/** The boundary cases of HAPPENS BEFORE and of RACES (the end of part 4 of the document), and of promises 20 and 21. */
public final class OrderEdgeTest {
    public static void main(String[] args) {
        oneThread();
        lateOnesAreNone();
        starts();
        joins();
        givesAndTakes();
        waits();
        sureCells();
        sureRows();
        follows();
        eachByItsOwn();
        failedOnes();
        whichRace();
        exchanges();
        noneBefore();
        failedDoNotRace();
        manyRaces();
        wrongIndexes();
        Checks.end();
    }

    private static void act(ScheduleHouse x, int thread) {
        for (int i = 0; i < x.choices(); i++) {
            if (x.choice(i, 0) == thread && x.choice(i, 1) == 0) {
                x.go(i);
                return;
            }
        }
        Checks.due("an act of thread " + thread + " is a choice", 0, 1);
    }

    private static ScheduleHouse acts(String text, int way, int... threads) {
        ScheduleHouse x = Checks.begun(text, way);
        for (int t : threads) {
            act(x, t);
        }
        return x;
    }

    /** All pairs of acts: row a of the rows has 1 at b where a is before b. */
    private static void order(ScheduleHouse x, String... rows) {
        Checks.due("acts", x.run(2), rows.length);
        for (int a = 0; a < rows.length; a++) {
            for (int b = 0; b < rows.length; b++) {
                Checks.due("before(" + a + ", " + b + ")", x.before(a, b), rows[a].charAt(b) == '1');
            }
        }
    }

    private static void oneThread() {
        Checks.says("the earlier one of one thread");
        order(acts("thread t { pause; pause; pause; } thread u { pause; pause; }", 0, 0, 1, 0, 1, 0), "00101", "00010", "00001", "00000", "00000");
    }

    private static void lateOnesAreNone() {
        Checks.says("LATE ones that come are none; ACTS have numbers from 0 on as they are done");
        ScheduleHouse x = acts("cell a; cell b; thread t { a = 1; b = 1; } thread u { pause; let i = a; }", 1, 0, 0, 1);
        x.go(0);
        x.go(0);
        Checks.due("acts", x.run(2), 3);
        act(x, 1);
        Checks.due("the read is the fourth", x.act(3, 1), 0);
        order(x, "0100", "0000", "0001", "0000");
        Checks.due("it races though the write came", x.run(5), 1);
    }

    private static void starts() {
        Checks.says("a START that does not FAIL and all of that thread");
        order(acts("thread t { pause; start u; pause; } idle thread u { pause; pause; }", 0, 0, 0, 1, 0, 1), "01111", "00111", "00001", "00000", "00000");
        order(acts("thread t { start u; start u; } idle thread u { pause; pause; }", 0, 0, 1, 0, 1), "0111", "0001", "0000", "0000");
        order(acts("thread t { start u; } thread u { pause; }", 0, 0, 1), "00", "00");
    }

    private static void joins() {
        Checks.says("all of a thread, and the JOIN of it");
        order(acts("thread t { pause; pause; } thread u { pause; join t; pause; } thread v { pause; }", 0, 0, 2, 1, 0, 1, 1),
                "000111", "000000", "000011", "000011", "000001", "000000");
        order(acts("thread t { back 1; } thread u { join t; }", 0, 0, 1), "01", "00");
        // a thread that did no ACT has nothing that is before
        order(acts("thread s { start t; } idle thread t { } thread u { join t; }", 0, 0, 2), "00", "00");
        order(acts("thread s { start t; } idle thread t { pause; } thread u { join t; }", 0, 0, 1, 2), "011", "001", "000");
    }

    private static void givesAndTakes() {
        Checks.says("a GIVE or WAIT of a lock and each later TAKE or RETAKE of it");
        String two = "lock k; lock l; thread t { take l; give l; pause; } thread u { take l; give l; } thread v { take k; give k; } thread w { take l; }";
        // t takes, gives, pauses; v takes and gives k; u takes and gives l; w takes l
        order(acts(two, 0, 0, 0, 0, 2, 2, 1, 1, 3), "01100111", "00100111", "00000000", "00001000", "00000000", "00000011", "00000001", "00000000");
        // a give of one of two takings is before a later take, too
        order(acts("lock l; thread t { take l; take l; give l; give l; } thread u { take l; }", 0, 0, 0, 0, 0, 1), "01111", "00111", "00011", "00001", "00000");
        // a take is before nothing by itself
        order(acts("lock l; thread t { pause; take l; } thread u { pause; }", 0, 0, 0, 1), "010", "000", "000");
        // an earlier take is not behind a later give
        order(acts("lock l; thread t { take l; give l; take l; give l; } thread u { take l; pause; give l; }", 0, 0, 0, 1, 1, 1, 0, 0),
                "0111111", "0011111", "0001111", "0000111", "0000011", "0000001", "0000000");
    }

    private static void waits() {
        Checks.says("a GIVE or WAIT of a lock and each later TAKE or RETAKE of it ... a WAKE and the RETAKE of one that it woke");
        // t: take, wait; u: take, wake, wait; t: retake
        order(acts("lock l; thread t { take l; wait l; } thread u { take l; wake l; wait l; }", 0, 0, 0, 1, 1, 1, 0),
                "011111", "001111", "000111", "000011", "000001", "000000");
        // two wait; both are woken; the second to take it again is behind the give of the first
        order(acts("lock l; thread t { take l; wait l; give l; } thread u { take l; wait l; } thread v { take l; wakeall l; give l; pause; }", 0,
                0, 0, 1, 1, 2, 2, 2, 2, 0, 0, 1),
                "01111111111", "00111111111", "00011111111", "00001111111", "00000111111", "00000011111", "00000001111", "00000000000", "00000000011",
                "00000000001", "00000000000");
    }

    private static void sureCells() {
        Checks.says("a WRITE, swap, add, cas of a sure cell and each later READ, swap, add, cas of it");
        String[] writes = {"s = 1;", "let i = swap s, 1;", "let i = add s, 1;", "let i = cas s, 0, 1;", "let i = cas s, 5, 1;"};
        String[] reads = {"let i = s;", "let i = swap s, 1;", "let i = add s, 1;", "let i = cas s, 1, 2;", "let i = cas s, 5, 1;"};
        for (String w : writes) {
            for (String r : reads) {
                for (int way = 0; way < 2; way++) {
                    order(acts("sure cell s; thread t { " + w + " } thread u { pause; " + r + " }", way, 0, 1, 1), "001", "001", "000");
                    order(acts("sure cell q; sure cell s; thread t { " + w + " } thread u { pause; " + r.replace("s;", "q;").replace("s,", "q,") + " }", way, 0, 1, 1),
                            "000", "001", "000");
                    order(acts("cell s; thread t { " + w + " } thread u { pause; " + r + " }", 0, 0, 1, 1), "000", "001", "000");
                }
            }
            // what was written is not before a plain WRITE, and a READ is before nothing
            order(acts("sure cell s; thread t { " + w + " } thread u { s = 2; }", 0, 0, 1), "00", "00");
            order(acts("sure cell s; thread t { let i = s; } thread u { " + w + " }", 0, 0, 1), "00", "00");
        }
        order(acts("sure cell s; thread t { let i = s; } thread u { let i = s; }", 0, 0, 1), "00", "00");
        // each later one, not just the next
        order(acts("sure cell s; thread t { s = 1; } thread u { s = 2; } thread v { let i = s; } thread w { let i = s; }", 0, 0, 1, 2, 3), "0011", "0011", "0000", "0000");
    }

    private static void sureRows() {
        Checks.says("of a sure cell ... of it: each CELL of a row for itself");
        order(acts("sure cell r[3]; thread t { r[0] = 1; r[2] = 1; } thread u { let i = r[1]; } thread v { let i = r[2]; } thread w { let i = r[0]; }", 0, 0, 0, 1, 2, 3),
                "01011", "00010", "00000", "00000", "00000");
    }

    private static void follows() {
        Checks.says("and what follows from these");
        // t writes and gives; u takes and sets s; v reads s and starts w
        order(acts("cell a; sure cell s; lock l; thread t { take l; give l; } thread u { take l; s = 1; pause; } thread v { let i = s; start w; } idle thread w { pause; }"
                + " thread x { join w; }", 0, 0, 0, 1, 1, 1, 2, 2, 3, 4),
                "011111111", "001111111", "000111111", "000011111", "000000000", "000000111", "000000011", "000000001", "000000000");
    }

    /** Thread 0, lock 0 and the sure cell 0 have one number, and nothing else in common. */
    private static void eachByItsOwn() {
        Checks.says("of a lock ... of it; of a sure cell ... of it; of that thread");
        String[] sources = {"start z;", "take l; give l;", "take l; wake l; give l;", "s = 1;", "let i = swap s, 1;", "join y;", "call 0, 1;", "take l; wait l;"};
        String[] targets = {"join y;", "take l;", "let i = s;", "let i = add s, 1;", "start z;", "call 0, 1;", "s = 2;", "let i = c;"};
        boolean[][] lockOrCell = new boolean[sources.length][targets.length];
        lockOrCell[1][1] = true;
        lockOrCell[2][1] = true;
        lockOrCell[7][1] = true;
        lockOrCell[3][2] = true;
        lockOrCell[3][3] = true;
        lockOrCell[4][2] = true;
        lockOrCell[4][3] = true;
        for (int k = 0; k < 2 * sources.length * targets.length; k++) {
            String others = k % 2 == 0 ? "thread y { } idle thread z { }" : "idle thread z { } thread y { }";
            int i = k / 2 % sources.length;
            int j = k / 2 / sources.length;
            if (i != 0 || j != 4) {
                eachByItsOwn(others, sources[i], targets[j], lockOrCell[i][j]);
            }
        }
    }

    private static void eachByItsOwn(String others, String source, String target, boolean want) {
        ScheduleHouse x = Checks.begun("sure cell s; cell c; lock l; " + others + " thread t { " + source + " pause; } thread u { pause; " + target + " pause; }", 0);
        int own = source.split(";").length;
        for (int k = 0; k < own; k++) {
            act(x, 2);
        }
        act(x, 3);
        act(x, 3);
        act(x, 3);
        for (int k = 0; k < own; k++) {
            Checks.due("act " + k + " of " + source + " and " + target, x.before(k, own + 1), want);
            Checks.due("act " + k + " of " + source + " and behind " + target, x.before(k, own + 2), want);
        }
    }

    private static void failedOnes() {
        Checks.says("(of ACTS that FAIL just by the first three)");
        // a give, a wait, a take of others that fails hands nothing on
        order(acts("lock l; thread t { pause; give l; } thread u { take l; }", 0, 0, 0, 1), "010", "000", "000");
        order(acts("lock l; thread t { wait l; } thread u { take l; }", 0, 0, 1), "00", "00");
        order(acts("sure cell s; thread t { s = 1 / 0; } thread u { let i = s; }", 0, 0, 1), "00", "00");
        order(acts("sure cell s; thread t { let i = swap s, 1 / 0; } thread u { let i = add s, 1; }", 0, 0, 1), "00", "00");
        // and takes nothing over
        order(acts("sure cell s; thread t { s = 1; } thread u { let i = add s, 1 / 0; }", 0, 0, 1), "00", "00");
        order(acts("sure cell s; thread t { s = 1; } thread u { let i = cas s, 1, 1 / 0; }", 0, 0, 1), "00", "00");
        order(acts("sure cell r[2]; thread t { r[0] = 1; } thread u { let i = r[2]; }", 0, 0, 1), "00", "00");
        // by its thread, its START and its JOIN it is ordered
        order(acts("thread t { pause; start u; } idle thread u { pause; back 1; } thread v { join u; }", 0, 0, 0, 1, 1, 2), "01111", "00111", "00011", "00001", "00000");
        order(acts("thread t { start u; } idle thread u { back 1; }", 0, 0, 1), "01", "00");
        // a START that fails
        order(acts("thread t { pause; start u; } thread u { pause; pause; }", 0, 0, 1, 0, 1), "0010", "0001", "0000", "0000");
    }

    private static int races(String defs, String first, String second) {
        return acts(defs + " thread t { " + first + " } thread u { " + second + " }", 0, 0, 1).run(5);
    }

    private static void whichRace() {
        Checks.says("READ, WRITE, swap, add, cas of one cell that is not sure, of different threads, not both READS");
        String[] all = {"let i = a;", "a = 1;", "let i = swap a, 1;", "let i = add a, 1;", "let i = cas a, 0, 1;", "let i = cas a, 7, 1;"};
        for (int i = 0; i < all.length; i++) {
            for (int j = 0; j < all.length; j++) {
                boolean race = !(i == 0 && j == 0) && !(i >= 2 && j >= 2);
                Checks.due(all[i] + " and " + all[j], races("cell a; cell b;", all[i], all[j]), race ? 1 : 0);
                Checks.due("sure: " + all[i] + " and " + all[j], races("sure cell a; cell b;", all[i], all[j]), 0);
                Checks.due("other cells: " + all[i] + " and " + all[j], races("cell a; cell b;", all[i], all[j].replace("a;", "b;").replace("a,", "b,").replace("a =", "b =")), 0);
            }
        }
        Checks.due("rows", races("cell r[2];", "r[1] = 1;", "r[1] = 2;"), 1);
        Checks.due("of one row", races("cell r[2];", "r[1] = 1;", "r[0] = 2;"), 0);
        Checks.due("of one thread", acts("cell a; thread t { a = 1; a = 2; let i = a; }", 0, 0, 0, 0).run(5), 0);
        // what is no access of a cell does not race, whatever its number is
        for (String s : new String[] {"take l;", "start v;", "join w;", "call 0, 1;", "pause;", "fence;"}) {
            Checks.due(s, acts("cell r[5]; lock l; thread t { r[0] = 1; r[2] = 1; r[3] = 1; } thread u { " + s + " } idle thread v { } thread w { }", 0, 0, 0, 0, 1).run(5), 0);
        }
        Checks.due("lock 0 and cell 0", acts("cell a; lock l; thread t { take l; } thread u { a = 1; } thread v { call 0, 1; }", 0, 0, 2, 1).run(5), 0);
    }

    private static void exchanges() {
        Checks.says("swap, add, cas of a cell that is not sure do not RACE with one another");
        ScheduleHouse x = acts("cell a; thread t { let i = swap a, 1; i = add a, 1; i = cas a, 1, 1; } thread u { let i = swap a, 1; i = add a, 1; i = cas a, 1, 1; i = a; }", 0,
                0, 0, 0, 1, 1, 1, 1);
        Checks.due("but with the read", x.run(5), 3);
        for (int i = 0; i < 3; i++) {
            Checks.due("earlier", x.race(i, 0), i);
            Checks.due("later", x.race(i, 1), 6);
        }
        // they do not order one another either
        Checks.due("not before", x.before(0, 3), false);
    }

    private static void noneBefore() {
        Checks.says("none before the other");
        String[] texts = {"cell a; lock l; thread t { take l; a = 1; give l; } thread u { take l; a = 2; give l; }",
            "cell a; sure cell s; thread t { a = 1; s = 1; pause; } thread u { let i = s; a = 2; pause; }",
            "cell a; thread t { a = 1; start u; pause; } idle thread u { pause; a = 2; }",
            "cell a; thread t { pause; pause; a = 1; } thread u { join t; a = 2; }"};
        int[][] paths = {{0, 0, 0, 1, 1, 1}, {0, 0, 0, 1, 1, 1}, {0, 0, 0, 1, 1}, {0, 0, 0, 1, 1}};
        for (int k = 0; k < texts.length; k++) {
            Checks.due("ordered: " + texts[k], acts(texts[k], 0, paths[k]).run(5), 0);
        }
        Checks.due("two locks do not order", acts("cell a; lock k; lock l; thread t { take k; a = 1; give k; } thread u { take l; a = 2; give l; }", 0, 0, 0, 0, 1, 1, 1).run(5), 1);
        Checks.due("the same, the other way round", acts(texts[1], 0, 1, 1, 1, 0, 0, 0).run(5), 1);
        Checks.due("behind its start", acts("cell a; thread t { start u; a = 1; } idle thread u { a = 2; }", 0, 0, 0, 1).run(5), 1);
    }

    private static void failedDoNotRace() {
        Checks.says("An ACT that FAILS ... RACES with none");
        Checks.due("the first", races("cell a;", "a = 1 / 0;", "a = 1;"), 0);
        Checks.due("the second", races("cell a;", "a = 1;", "a = 1 / 0;"), 0);
        Checks.due("both", races("cell r[2];", "r[2] = 1;", "r[2] = 1;"), 0);
        ScheduleHouse x = Checks.begun("cell a; cell b; thread t { " + "b = 1; ".repeat(8) + "a = 1; } thread u { let i = a; }", 1);
        for (int k = 0; k < 9; k++) {
            act(x, 0);
        }
        act(x, 1);
        Checks.due("the 9th", x.run(5), 0);
    }

    private static void manyRaces() {
        Checks.says("RACE i of the run, by its later ACT, then by its earlier one");
        ScheduleHouse x = Checks.begun("cell a; thread t { while 1 { a = 1; } } thread u { while 1 { a = 2; } }", 0);
        x.draw(77, 400);
        int[] of = new int[400];
        int first = 0;
        for (int a = 0; a < 400; a++) {
            of[a] = x.act(a, 0);
            first += of[a] == 0 ? 1 : 0;
        }
        int many = first * (400 - first);
        Checks.due("races", x.run(5), many);
        int i = 0;
        int checked = 0;
        for (int later = 0; later < 400; later++) {
            for (int earlier = 0; earlier < later; earlier++) {
                if (of[earlier] != of[later]) {
                    if (i % 1999 == 0 || i == many - 1) {
                        Checks.due("earlier of " + i, x.race(i, 0), earlier);
                        Checks.due("later of " + i, x.race(i, 1), later);
                        checked++;
                    }
                    i++;
                }
            }
        }
        Checks.due("some were looked at", checked > 10, true);
        Checks.badIndex("one too many", () -> x.race(many, 0));
    }

    private static void wrongIndexes() {
        Checks.says("IndexOutOfBoundsException: none such, or another which");
        ScheduleHouse x = acts("cell a; thread t { a = 1; } thread u { a = 2; }", 0, 0, 1);
        for (int i : new int[] {-1, 1, 2, Integer.MAX_VALUE, Integer.MIN_VALUE}) {
            Checks.badIndex("race(" + i + ", 0)", () -> x.race(i, 0));
            Checks.badIndex("race(" + i + ", 1)", () -> x.race(i, 1));
        }
        for (int which : new int[] {-1, 2, Integer.MAX_VALUE, Integer.MIN_VALUE}) {
            Checks.badIndex("race(0, " + which + ")", () -> x.race(0, which));
        }
        Checks.due("earlier", x.race(0, 0), 0);
        Checks.due("later", x.race(0, 1), 1);
        ScheduleHouse none = Checks.begun("thread t { pause; }", 0);
        Checks.badIndex("no race", () -> none.race(0, 0));
        Checks.badIndex("no act", () -> none.before(0, 0));
        none.go(0);
        Checks.due("one act", none.before(0, 0), false);
        Checks.badIndex("no race", () -> none.race(0, 0));
    }
}
