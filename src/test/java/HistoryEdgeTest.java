/** The boundary cases of part 6 of the document (histories of calls) and of promise 22. */
public final class HistoryEdgeTest {
    private static final int CELL = 0;
    private static final int STACK = 1;
    private static final int QUEUE = 2;
    private static final int SET = 3;
    private static final String MOST = "(999999999 * 2 + 147483649)";

    public static void main(String[] args) {
        emptyHistory();
        cells();
        stacks();
        queues();
        sets();
        fullStructures();
        strangeValues();
        overBeforeItBegan();
        notOver();
        fewest();
        twelveCalls();
        sixAtOnce();
        whatCounts();
        wrongStructure();
        Checks.end();
    }

    /** Calls of one thread, each {kind, value, answer}; of the bad one the answer is one more. */
    private static ScheduleHouse run(int[][] calls, int bad) {
        StringBuilder body = new StringBuilder();
        for (int k = 0; k < calls.length; k++) {
            int answer = calls[k][2] + (k == bad ? 1 : 0);
            body.append("call ").append(calls[k][0]).append(", ").append(calls[k][1]).append("; back ").append(answer).append("; ");
        }
        ScheduleHouse x = Checks.begun("thread t { " + body + "}", 0);
        x.draw(1, 400);
        Checks.due("calls", x.run(6), calls.length);
        return x;
    }

    /** The structure gives just these answers; with any one of them changed it does not, from there on. */
    private static void gives(int structure, int[]... calls) {
        Checks.due("as the structure answers", run(calls, -1).linear(structure), 1);
        for (int bad = 0; bad < calls.length; bad++) {
            Checks.due("call " + bad + " answers one more", run(calls, bad).linear(structure), -2 - 2 * (bad + 1));
        }
    }

    private static int[] call(int kind, int value, int answer) {
        return new int[] {kind, value, answer};
    }

    private static void emptyHistory() {
        Checks.says("THE HISTORY of a run is the row of these");
        ScheduleHouse x = Checks.begun("thread t { pause; call 1, 5; back 77; }", 0);
        for (int k = 0; k < 2; k++) {
            for (int structure = 0; structure < 4; structure++) {
                Checks.due("of none", x.linear(structure), 1);
            }
            x.go(0);
        }
        for (int structure = 0; structure < 4; structure++) {
            Checks.due("of one that is not over", x.linear(structure), 1);
        }
        x.go(0);
        for (int structure = 0; structure < 4; structure++) {
            Checks.due("of one with a wrong answer", x.linear(structure), -4);
        }
        x.again(0);
        Checks.due("of none again", x.linear(0), 1);
    }

    private static void cells() {
        Checks.says("0 A CELL (0 at first): 0 write v: answers 0; 1 read: its value; 2 add v: what it was; 3 swap v: what it was");
        gives(CELL, call(1, 0, 0), call(0, 5, 0), call(1, 9, 5), call(2, 3, 5), call(1, 0, 8), call(3, -1, 8), call(1, 0, -1), call(2, 1, -1), call(1, 5, 0), call(3, 7, 0),
                call(1, 0, 7));
        gives(CELL, call(2, 0, 0));
        gives(CELL, call(3, 4, 0), call(3, 0, 4), call(3, 0, 0));
        gives(CELL, call(0, 0, 0), call(0, -8, 0), call(2, -1, -8), call(1, 0, -9));
    }

    private static void stacks() {
        Checks.says("1 A STACK: 0 put v: 0; 1 take: the latest, -1 if there is none; 2 how many; 3 empty it: how many there were");
        gives(STACK, call(1, 0, -1), call(2, 0, 0), call(3, 0, 0), call(0, 5, 0), call(0, 6, 0), call(2, 9, 2), call(1, 0, 6), call(0, 7, 0), call(1, 0, 7), call(1, 0, 5),
                call(1, 0, -1), call(2, 0, 0));
        gives(STACK, call(0, 5, 0), call(0, 5, 0), call(0, 6, 0), call(3, 8, 3), call(2, 0, 0), call(1, 0, -1), call(0, 9, 0), call(2, 0, 1), call(1, 0, 9), call(3, 0, 0));
        gives(STACK, call(0, -1, 0), call(2, 0, 1), call(1, 0, -1), call(2, 0, 0));
    }

    private static void queues() {
        Checks.says("2 A QUEUE: likewise, take: the oldest");
        gives(QUEUE, call(1, 0, -1), call(2, 0, 0), call(0, 5, 0), call(0, 6, 0), call(1, 0, 5), call(0, 7, 0), call(2, 0, 2), call(1, 0, 6), call(1, 0, 7), call(1, 0, -1),
                call(3, 0, 0));
        gives(QUEUE, call(0, 5, 0), call(0, 6, 0), call(3, 0, 2), call(2, 0, 0), call(1, 0, -1), call(0, 7, 0), call(0, 8, 0), call(1, 0, 7), call(1, 0, 8));
        gives(QUEUE, call(0, 5, 0), call(0, 5, 0), call(1, 0, 5), call(2, 0, 1), call(1, 0, 5), call(1, 0, -1));
    }

    private static void sets() {
        Checks.says("3 A SET: 0 put v: 1 if it is new, else 0; 1 take v out: 1 if it was in, else 0; 2 whether v is in: 1, 0; 3 how many");
        gives(SET, call(2, 5, 0), call(1, 5, 0), call(3, 0, 0), call(0, 5, 1), call(0, 5, 0), call(2, 5, 1), call(0, 6, 1), call(3, 9, 2), call(1, 5, 1), call(1, 5, 0),
                call(2, 5, 0), call(3, 0, 1));
        gives(SET, call(0, 0, 1), call(0, -1, 1), call(0, 1, 1), call(3, 0, 3), call(1, 0, 1), call(2, 0, 0), call(2, -1, 1), call(2, 1, 1), call(1, 1, 1), call(1, -1, 1),
                call(3, 0, 0), call(0, 0, 1));
    }

    private static void fullStructures() {
        Checks.says("At most 12 calls");
        int[][] put = new int[12][];
        for (int k = 0; k < 12; k++) {
            put[k] = call(0, 20 + k, 0);
        }
        Checks.due("twelve are put", run(put, -1).linear(STACK), 1);
        Checks.due("twelve are put", run(put, -1).linear(QUEUE), 1);
        put[11] = call(1, 0, 30);
        Checks.due("the latest of eleven", run(put, -1).linear(STACK), 1);
        Checks.due("the latest of eleven", run(put, -1).linear(QUEUE), -26);
        put[11] = call(1, 0, 20);
        Checks.due("the oldest of eleven", run(put, -1).linear(QUEUE), 1);
        Checks.due("the oldest of eleven", run(put, -1).linear(STACK), -26);
        put[11] = call(2, 0, 11);
        Checks.due("eleven", run(put, -1).linear(STACK), 1);
        put[11] = call(3, 0, 11);
        Checks.due("eleven", run(put, -1).linear(QUEUE), 1);
        for (int k = 0; k < 12; k++) {
            put[k] = call(0, 20 + k, 1);
        }
        Checks.due("twelve new ones", run(put, -1).linear(SET), 1);
        put[11] = call(3, 0, 11);
        Checks.due("eleven", run(put, -1).linear(SET), 1);
        put[11] = call(1, 20, 1);
        Checks.due("the first of eleven", run(put, -1).linear(SET), 1);
        put[11] = call(0, 30, 0);
        Checks.due("the last of eleven", run(put, -1).linear(SET), 1);
    }

    private static void strangeValues() {
        Checks.says("VALUES are ints (32 bits, wrapping)");
        ScheduleHouse x = Checks.begun("thread t { call 0, " + MOST + "; back 0; call 2, 1; back " + MOST + "; call 1, 0; back -" + MOST + " - 1; }", 0);
        x.draw(1, 400);
        Checks.due("add wraps", x.linear(CELL), 1);
        ScheduleHouse y = Checks.begun("thread t { call 0, " + MOST + " + 1; back 0; call 1, 0; back -" + MOST + " - 1; }", 0);
        y.draw(1, 400);
        Checks.due("the least of a stack", y.linear(STACK), 1);
        Checks.due("the least of a queue", y.linear(QUEUE), 1);
    }

    /** Does the acts of the threads, in the order in which they stand here. */
    private static ScheduleHouse acts(String text, int... threads) {
        ScheduleHouse x = Checks.begun(text, 0);
        for (int t : threads) {
            int at = -1;
            for (int i = 0; i < x.choices(); i++) {
                at = x.choice(i, 0) == t ? i : at;
            }
            x.go(at);
        }
        return x;
    }

    private static void overBeforeItBegan() {
        Checks.says("each call stands behind all that were over before it began");
        for (int answer = 0; answer < 2; answer++) {
            String text = "thread t { call 0, 1; back 0; } thread u { call 1, 0; back " + answer + "; }";
            Checks.due("over before", acts(text, 0, 0, 1, 1).linear(CELL), answer == 1 ? 1 : -6);
            Checks.due("began before it was over", acts(text, 0, 1, 0, 1).linear(CELL), 1);
            Checks.due("began before it was over", acts(text, 0, 1, 1, 0).linear(CELL), 1);
            Checks.due("began first", acts(text, 1, 0, 0, 1).linear(CELL), 1);
            Checks.due("began first", acts(text, 1, 0, 1, 0).linear(CELL), 1);
            Checks.due("was over before", acts(text, 1, 1, 0, 0).linear(CELL), answer == 0 ? 1 : -4);
        }
        // of three, the one in the middle ties the other two
        String three = "thread t { call 0, 1; back 0; } thread u { call 0, 2; back 0; } thread v { call 1, 0; back 1; }";
        Checks.due("t, u, v behind one another", acts(three, 0, 0, 1, 1, 2, 2).linear(CELL), -8);
        Checks.due("t and u at once", acts(three, 0, 1, 1, 0, 2, 2).linear(CELL), 1);
        Checks.due("u and v at once", acts(three, 0, 0, 1, 2, 1, 2).linear(CELL), 1);
        Checks.due("u, t, v", acts(three, 1, 1, 0, 0, 2, 2).linear(CELL), 1);
    }

    private static void notOver() {
        Checks.says("(those that are over; of those that are not, any, with whatever answer)");
        for (int answer = 0; answer < 3; answer++) {
            String text = "thread t { call 0, 1; pause; } thread u { call 1, 0; back " + answer + "; }";
            Checks.due("a write that is not over", acts(text, 0, 1, 1).linear(CELL), answer < 2 ? 1 : -5);
            Checks.due("it began when the read was over", acts(text, 1, 1, 0).linear(CELL), answer == 0 ? 1 : -4);
        }
        String taken = "thread t { call 0, 5; back 0; } thread u { call 1, 0; pause; } thread v { call 2, 0; back N; call 1, 0; back M; }";
        Checks.due("taken, or not", acts(taken.replace("N", "1").replace("M", "5"), 0, 0, 1, 2, 2, 2, 2).linear(STACK), 1);
        Checks.due("taken, or not", acts(taken.replace("N", "0").replace("M", "-1"), 0, 0, 1, 2, 2, 2, 2).linear(STACK), 1);
        Checks.due("taken between", acts(taken.replace("N", "1").replace("M", "-1"), 0, 0, 1, 2, 2, 2, 2).linear(QUEUE), 1);
        Checks.due("not untaken", acts(taken.replace("N", "0").replace("M", "5"), 0, 0, 1, 2, 2, 2, 2).linear(QUEUE), -9);
        // each of them but once
        String once = "thread t { call 0, 5; } thread u { call 1, 0; back 5; call 1, 0; back 5; }";
        Checks.due("put once, taken once", acts(once, 0, 1, 1).linear(STACK), 1);
        Checks.due("put once, taken twice", acts(once, 0, 1, 1, 1, 1).linear(STACK), -7);
        // six that are not over
        StringBuilder six = new StringBuilder();
        for (int t = 0; t < 5; t++) {
            six.append("thread t").append(t).append(" { call 2, ").append(1 << t).append("; } ");
        }
        six.append("thread u { call 1, 0; back N; }");
        for (int n : new int[] {0, 1, 21, 31}) {
            Checks.due("some of five", acts(six.toString().replace("N", String.valueOf(n)), 0, 1, 2, 3, 4, 5, 5).linear(CELL), 1);
        }
        Checks.due("none of five", acts(six.toString().replace("N", "32"), 0, 1, 2, 3, 4, 5, 5).linear(CELL), -9);
    }

    private static void fewest() {
        Checks.says("if not, -2 less how many of its CALLS and BACKS, from the first one on, are the fewest that are not");
        // it is told by a BACK that comes late: the first read is wrong only when the write is known to be over before it
        String text = "thread t { call 1, 0; back 9; pause; call 1, 0; back 8; } thread u { call 0, 9; back 0; }";
        Checks.due("the write began in time", acts(text, 0, 1, 0, 1, 0, 0, 0).linear(CELL), -8);
        Checks.due("the write began too late", acts(text, 0, 0, 1, 1, 0, 0, 0).linear(CELL), -4);
        Checks.due("more behind it does not matter", acts(text, 0, 0, 1, 1).linear(CELL), -4);
        Checks.due("just so many", acts(text, 0, 0).linear(CELL), -4);
        Checks.due("one less", acts(text, 0).linear(CELL), 1);
        // other acts are not counted
        String pauses = "thread t { pause; call 1, 0; pause; pause; back 9; pause; }";
        Checks.due("acts between", acts(pauses, 0, 0, 0, 0, 0, 0).linear(CELL), -4);
        // events of other calls are
        String others = "thread t { call 1, 0; back 9; } thread u { call 0, 1; back 0; call 0, 2; }";
        Checks.due("five", acts(others, 0, 1, 1, 1, 0).linear(CELL), -7);
        Checks.due("four", acts(others, 0, 1, 1, 0, 1).linear(CELL), -6);
        Checks.due("two", acts(others, 0, 0, 1, 1, 1).linear(CELL), -4);
    }

    private static void twelveCalls() {
        Checks.says("At most 12 calls (else: NONE)");
        ScheduleHouse x = Checks.begun("thread t { let i = 0; while i < 13 { call 2, 1; back i; i = i + 1; } }", 0);
        for (int k = 0; k < 23; k++) {
            x.go(0);
        }
        Checks.due("the twelfth is not over", x.run(6), 12);
        Checks.due("the twelfth is not over", x.linear(CELL), 1);
        Checks.due("eleven of a stack", x.linear(STACK), -6);
        x.go(0);
        Checks.due("twelve", x.linear(CELL), 1);
        x.go(0);
        for (int structure = 0; structure < 4; structure++) {
            Checks.due("thirteen", x.linear(structure), -1);
        }
        x.go(0);
        Checks.due("thirteen", x.linear(CELL), -1);
        x.again(24);
        Checks.due("twelve again", x.linear(CELL), 1);
        ScheduleHouse bad = Checks.begun("thread t { let i = 0; while i < 12 { call 2, 1; back i + i / 11; i = i + 1; } }", 0);
        bad.draw(1, 400);
        Checks.due("the twelfth is wrong", bad.linear(CELL), -2 - 24);
        // a call that fails is none
        ScheduleHouse y = Checks.begun("thread t { let i = 0; while i < 12 { call 2, 1; back i; i = i + 1; } call 1, 1 / 0; } thread u { back 1; }", 0);
        y.draw(1, 400);
        Checks.due("twelve, and one that failed", y.run(6), 12);
        Checks.due("twelve, and one that failed", y.linear(CELL), 1);
    }

    /** Six threads with two calls each, all at once. */
    private static void sixAtOnce() {
        Checks.says("can be put into a row");
        for (int last : new int[] {61, 62}) {
            StringBuilder text = new StringBuilder();
            for (int t = 0; t < 6; t++) {
                text.append("thread t").append(t).append(" { call 2, ").append(t + 1).append("; back ").append(t * (t + 1) / 2).append("; call 2, ").append(t + 6).append("; back ")
                        .append(t == 5 ? last : 21 + 6 * t + t * (t - 1) / 2).append("; } ");
            }
            // 1 + .. + 6 = 21; then 6, 7, .. 10 are added before the last one, which makes 61
            ScheduleHouse x = acts(text.toString(), 5, 4, 3, 2, 1, 0, 0, 1, 2, 3, 4, 5, 5, 4, 3, 2, 1, 0, 0, 1, 2, 3, 4, 5);
            Checks.due("twelve at once", x.linear(CELL), last == 61 ? 1 : -26);
        }
        StringBuilder text = new StringBuilder();
        for (int t = 0; t < 6; t++) {
            text.append("thread t").append(t).append(" { call 2, 1; back ").append(t).append("; call 2, 1; back ").append(11 - t).append("; } ");
        }
        Checks.due("in any order", acts(text.toString(), 0, 1, 2, 3, 4, 5, 0, 1, 2, 3, 4, 5, 0, 1, 2, 3, 4, 5, 0, 1, 2, 3, 4, 5).linear(CELL), 1);
        Checks.due("not a stack", acts(text.toString(), 0, 1, 2, 3, 4, 5, 0, 1, 2, 3, 4, 5).linear(STACK), -2 - 8);
    }

    private static void whatCounts() {
        Checks.says("CALL n, E begins a call of the kind n (0 .. 3) with a value, BACK E ends it with an answer");
        ScheduleHouse x = Checks.begun("thread t { let i = 4; call 3, i * 2; i = 5; back i - 5; call 1, 0; back 8; }", 0);
        x.draw(1, 400);
        Checks.due("their values are those of the act", x.linear(CELL), 1);
        Checks.due("its kind", x.act(0, 2), 3);
        Checks.due("its value", x.act(0, 4), 8);
        Checks.due("its answer", x.act(1, 4), 0);
        ScheduleHouse y = Checks.begun("thread t { call 0, 1; call 0, 1; } thread u { call 1, 0; back 1; back 7; }", 0);
        y.go(0);
        y.go(0);
        y.go(0);
        y.go(0);
        y.go(0);
        Checks.due("what fails is no part of it", y.linear(CELL), 1);
        Checks.due("calls begun", y.run(6), 2);
        // in way 1, too
        ScheduleHouse z = Checks.begun("cell a; thread t { a = 1; call 1, 0; back 1; }", 1);
        z.go(0);
        z.go(0);
        z.go(0);
        Checks.due("with late ones", z.linear(CELL), -4);
        Checks.due("a late one is there", z.run(7), 1);
    }

    private static void wrongStructure() {
        Checks.says("IllegalArgumentException: structure is not 0 .. 3");
        ScheduleHouse x = Checks.begun("thread t { let i = 0; while i < 20 { call 2, 1; back i; i = i + 1; } }", 0);
        for (int k = 0; k < 2; k++) {
            for (int structure : new int[] {-1, 4, 5, Integer.MAX_VALUE, Integer.MIN_VALUE}) {
                Checks.badArgument("linear(" + structure + ")", () -> x.linear(structure));
            }
            Checks.due("as before", x.linear(0), k == 0 ? 1 : -1);
            x.draw(1, 400);
        }
        Checks.noState("no run", () -> Checks.compiled("").linear(0));
        Checks.noState("no run, and no structure", () -> Checks.compiled("").linear(4));
    }
}
