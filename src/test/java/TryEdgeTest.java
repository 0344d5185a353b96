/** The boundary cases of part 5 of the document (all that can be) and of promises 23 to 30. */
public final class TryEdgeTest {
    private static final int STUCK = 8;
    private static final int FAILED = 9;
    private static final int RACING = 10;
    private static final String MOST = "(999999999 * 2 + 147483649)";

    public static void main(String[] args) {
        whatAStateIs();
        manyStates();
        waitingStates();
        lateStates();
        calledStates();
        limits();
        fullLimit();
        partly();
        lookedAtWhenFound();
        alwaysAndFinally();
        claimsFirst();
        claimsThatFail();
        claimsOfWhatCame();
        stuckAndFailed();
        racing();
        racingNot();
        endsAndOutcomes();
        sortedOutcomes();
        manyOutcomes();
        waitingThreads();
        firstStates();
        showing();
        commonLocks();
        comesBefore();
        rings();
        alike();
        notTried();
        anew();
        wrongArguments();
        Checks.end();
    }

    private static ScheduleHouse tried(String text, int way) {
        ScheduleHouse x = Checks.compiled(text);
        x.attempt(way, 3000);
        return x;
    }

    private static void states(String what, String text, int way, int want) {
        ScheduleHouse x = Checks.compiled(text);
        Checks.due(what + ": " + text, x.attempt(way, 3000), want);
        Checks.due("wholly", x.tried(way, 1), 0);
        Checks.due("states", x.tried(way, 0), want);
    }

    private static void whatAStateIs() {
        Checks.says("A STATE is all of cells, locks, threads ...; two with the same of all this are one");
        states("no thread", "cell a; lock l;", 0, 1);
        states("nothing to do", "thread t { } thread u { assert 0; } idle thread v { pause; }", 1, 1);
        states("a loop", "thread t { while 1 { pause; } }", 0, 1);
        states("the ACT at which it is", "thread t { while 1 { pause; pause; pause; } }", 0, 3);
        states("cells", "cell a; thread t { while 1 { let i = a; a = 1 - i; } }", 0, 4);
        states("the same value is one", "cell a; thread t { while 1 { a = 0; } }", 0, 1);
        states("LOCALS that are known", "thread t { let i = 0; while 1 { pause; i = (i + 1) mod 5; } }", 0, 5);
        states("LOCALS that are not known", "cell a; thread t { while 1 { if 1 { let i = a; } pause; } } thread u { a = 1; }", 0, 4);
        states("taken in two orders", "thread t { pause; } thread u { pause; }", 0, 4);
        states("which lock is held", "lock k; lock l; thread t { take k; take l; }", 0, 3);
        states("who holds it", "lock l; thread t { lock l { } } thread u { lock l { } }", 0, 8);
        states("ENDED", "thread t { pause; } thread u { pause; end; }", 0, 4);
        states("ENDED at two places", "cell a; thread t { if 1 { let i = a; if i { end; } } } thread u { a = 1; }", 0, 4);
        states("ENDED at three places", "cell a; thread t { if 1 { let i = a; if i { end; } else { end; } } end; } thread u { a = 1; }", 0, 4);
        states("ASLEEP", "thread t { start u; } idle thread u { pause; }", 0, 3);
        Checks.says("FAILED and with which number; of GOING and FAILED ones the S or ACT at which they are, and their LOCALS that are known there");
        states("one place", "cell a; thread t { if 1 { let i = a; } assert 0; } thread u { a = 1; }", 0, 4);
        states("LOCALS", "cell a; thread t { let i = a; assert 0; } thread u { a = 1; }", 0, 5);
        states("no LOCALS of ENDED ones", "cell a; thread t { let i = a; } thread u { a = 1; }", 0, 4);
        states("two places", "cell a; thread t { let i = a; i = i * 1; if i { assert 0; } i = 0; assert 0; } thread u { a = 1; }", 0, 5);
        // how often it is held: no end of states
        ScheduleHouse x = Checks.compiled("lock l; thread t { while 1 { take l; } }");
        Checks.due("how often", x.attempt(0, 50), 50);
        Checks.due("partly", x.tried(0, 1), 1);
    }

    private static void manyStates() {
        Checks.says("two with the same of all this are one");
        // 14 * 14 * 14 states, each but the last found by up to three ways
        String thread = " { " + "pause; ".repeat(13) + "} ";
        ScheduleHouse x = tried("thread t" + thread + "thread u" + thread + "thread v" + thread, 0);
        int[] want = {2744, 0, 1, 1, 0, 3 * 13 * 14 * 14};
        for (int what = 0; what < 6; what++) {
            Checks.due("tried(0, " + what + ")", x.tried(0, what), want[what]);
        }
        // 5 ^ 4 of cells and places
        String count = " { let i = 0; while i < 4 { i = i + 1; r[self] = i; } } ";
        states("four that count", "cell r[4]; thread t" + count + "thread u" + count + "thread v" + count + "thread w" + count, 0, 625);
        // cells whose values are mixed to one number by many a way to mix them: they are two all the same
        for (int[] pair : new int[][] {{50332853, 2}, {3, 2}, {1, 0}, {31, 2}, {-31, 2}, {65537, 2}}) {
            ScheduleHouse y = tried("cell a; cell b; sure cell s; thread t { if 1 { let i = s; if i { a = " + pair[1] + "; b = " + pair[0] + "; } else { a = 1; b = 0; } } }"
                    + " thread u { s = 1; }", 0);
            Checks.due("two ends", y.tried(0, 2), 2);
            Checks.due("two outcomes", y.tried(0, 3), 2);
            Checks.due("states", y.tried(0, 0), 11);
        }
    }

    private static void waitingStates() {
        Checks.says("what they hold, wait for (and how often), whether they were woken");
        // t waits with the lock held once or twice; then it gives it twice, which fails if it was once
        ScheduleHouse x = tried("cell a; lock l; thread t { if 1 { let i = a; if i { take l; } } take l; wait l; give l; give l; }"
                + " thread u { a = 1; } thread v { take l; wakeall l; give l; } finally 0;", 0);
        Checks.due("one way fails", x.finding(0, FAILED) >= 0, true);
        Checks.due("the other one is stuck or ends", x.finding(0, STUCK) >= 0, true);
        Checks.due("a run can end well", x.tried(0, 2) >= 3, true);
        // which lock it waits for
        states("k or l", "lock k; lock l; thread t { take k; take l; wait k; } ", 0, 4);
        ScheduleHouse y = tried("cell a; lock k; lock l; thread t { take k; take l; if 1 { let i = a; if i { wait k; } else { wait l; } } } thread u { a = 1; }"
                + " thread v { take k; wakeall k; }", 0);
        Checks.due("stuck in two ways", y.finding(0, STUCK) >= 0, true);
        // what it waited for before is no part of it: round after round the same states
        states("waits again and again", "lock l; thread t { while 1 { take l; wait l; give l; } } thread u { while 1 { take l; wakeall l; give l; } }", 0, 10);
        // woken or not: without it the woken one would never go on
        ScheduleHouse z = tried("lock l; sure cell w; thread t { take l; w = 1; wait l; w = 2; give l; } thread u { let i = w; if i { take l; wake l; give l; } } finally w == 1;", 0);
        Checks.due("woken, it goes on", z.finding(0, 4) >= 0, true);
        Checks.due("not woken, it is stuck", z.finding(0, STUCK) >= 0, true);
        Checks.due("outcomes", z.tried(0, 3), 2);
        states("wait and wake", "lock l; thread t { take l; wait l; } thread u { take l; wake l; give l; }", 0, 12);
    }

    private static void lateStates() {
        Checks.says("LATE ones");
        states("one late one", "cell a; thread t { a = 1; }", 1, 3);
        states("one of the same value", "cell a; thread t { a = 0; }", 1, 3);
        states("two cells", "cell a; cell b; thread t { a = 1; b = 1; }", 1, 7);
        states("one cell twice", "cell a; thread t { a = 1; a = 2; }", 1, 6);
        states("their values", "cell a; cell b; thread t { if 1 { let i = b; a = i; } } thread u { b = 1; }", 0, 8);
        states("the values of all of them", "cell a; cell b; sure cell c; thread t { if 1 { let i = c; a = 1; b = i; } pause; } thread u { c = 1; }", 1, 35);
        states("a sure one is not late", "sure cell a; thread t { a = 1; }", 1, 2);
        states("eight and the ninth", "cell a; thread t { let i = 0; while i < 9 { a = 1; i = i + 1; } }", 1, 63);
    }

    private static void calledStates() {
        Checks.says("whether in a CALL, and of which kind");
        states("in one or not", "thread t { while 1 { call 0, 1; back 1; } }", 0, 2);
        states("of an ENDED one", "sure cell a; thread t { if 1 { let i = a; if i { call 1, 5; } else { call 2, 6; } } } thread u { a = 1; }", 0, 8);
        states("of one kind", "sure cell a; thread t { if 1 { let i = a; if i { call 1, 5; } else { call 1, 6; } } } thread u { a = 1; }", 0, 7);
        states("its value is no part", "thread t { let i = 0; while i < 2 { i = i + 1; if 1 { call 1, i; back i; } } }", 0, 5);
        states("ended in one, or not", "sure cell a; thread t { if 1 { let i = a; if i { call 1, 5; } else { pause; } } } thread u { a = 1; }", 0, 8);
    }

    private static void limits() {
        Checks.says("up to so many states (LIMIT); when one more would come the trying ENDS there (PARTLY)");
        ScheduleHouse x = Checks.compiled("thread t { pause; pause; pause; } thread u { pause; pause; } finally 0;");
        for (int limit = 1; limit <= 14; limit++) {
            Checks.due("LIMIT " + limit, x.attempt(0, limit), Math.min(limit, 12));
            Checks.due("states", x.tried(0, 0), Math.min(limit, 12));
            Checks.due("partly", x.tried(0, 1), limit < 12 ? 1 : 0);
            Checks.due("ends", x.tried(0, 2), limit < 12 ? 0 : 1);
            Checks.due("the finally", x.finding(0, 4), limit < 12 ? -1 : 5);
        }
        // what leads to known states alone is not one more
        ScheduleHouse y = Checks.compiled("thread t { while 1 { pause; pause; } } thread u { while 1 { pause; pause; } }");
        Checks.due("LIMIT 4", y.attempt(0, 4), 4);
        Checks.due("wholly", y.tried(0, 1), 0);
        Checks.due("LIMIT 3", y.attempt(0, 3), 3);
        Checks.due("partly", y.tried(0, 1), 1);
        ScheduleHouse z = Checks.compiled("");
        Checks.due("LIMIT 1", z.attempt(1, 1), 1);
        Checks.due("wholly", z.tried(1, 1), 0);
    }

    private static void fullLimit() {
        Checks.says("up to LIMIT (1 .. 3000) states");
        for (int more = 0; more < 2; more++) {
            ScheduleHouse x = Checks.compiled("thread t { let i = 0; while i < " + (2999 + more) + " { pause; i = i + 1; } } finally 0;");
            Checks.due("3000", x.attempt(0, 3000), 3000);
            Checks.due("partly", x.tried(0, 1), more);
            Checks.due("ends", x.tried(0, 2), 1 - more);
            Checks.due("choices", x.tried(0, 5), 2999 + more);
            Checks.due("how far", x.finding(0, 4), more == 0 ? 2999 : -1);
            if (more == 0) {
                Checks.noState("more than 400 CHOICES lead to it", () -> x.show(0, 4));
                Checks.due("2999", x.attempt(0, 2999), 2999);
                Checks.due("partly", x.tried(0, 1), 1);
            }
        }
    }

    private static void partly() {
        Checks.says("state by state in the order in which they were found, all that its CHOICES lead to, in order");
        // the second of two states is found by t's choice, the third by u's
        ScheduleHouse x = Checks.compiled("cell a; cell b; thread t { a = 1; a = 2; } thread u { b = 1; b = 2; } always a == 0; always b == 0; always a < 2; always b < 2;");
        int[][] found = {{-1, -1, -1, -1}, {1, -1, -1, -1}, {1, 1, -1, -1}, {1, 1, 2, -1}, {1, 1, 2, -1}, {1, 1, 2, 2}};
        for (int limit = 1; limit <= 6; limit++) {
            x.attempt(0, limit);
            for (int f = 0; f < 4; f++) {
                Checks.due("LIMIT " + limit + ", finding " + f, x.finding(0, f), found[limit - 1][f]);
            }
        }
    }

    private static void lookedAtWhenFound() {
        Checks.says("All that follows is looked at in each state when it is found");
        ScheduleHouse x = Checks.compiled("cell a; lock k; lock l; thread t { take k; take l; a = 1; } thread u { take l; take k; a = 2; } always 0; finally 0;");
        x.attempt(0, 1);
        Checks.due("its choices", x.tried(0, 5), 2);
        Checks.due("its always", x.finding(0, 0), 0);
        Checks.due("no ring yet", x.ring(0), 0);
        Checks.due("all in common", x.common(0, 0), 3);
        x.attempt(0, 2);
        Checks.due("their choices", x.tried(0, 5), 4);
        Checks.due("k before l alone", x.ring(0), 0);
        x.attempt(0, 3);
        Checks.due("their choices", x.tried(0, 5), 6);
        Checks.due("both orders", x.ring(0), 2);
        Checks.due("no access yet", x.common(0, 0), 3);
        // found as the fourth: t holds both
        x.attempt(0, 4);
        Checks.due("t's access", x.common(0, 0), 3);
        Checks.due("one choice more", x.tried(0, 5), 7);
        Checks.due("u goes, but can not act", x.tried(0, 4), 1);
        // the stuck one is found as the fifth
        Checks.due("not stuck yet", x.finding(0, STUCK), -1);
        x.attempt(0, 5);
        Checks.due("stuck", x.finding(0, STUCK), 2);
        Checks.due("an end", x.tried(0, 2), 1);
        Checks.due("its outcome", x.tried(0, 3), 1);
        Checks.due("two with one that can not act", x.tried(0, 4), 2);
    }

    private static void alwaysAndFinally() {
        Checks.says("0 .. 3 an always that is 0; 4 .. 7 a finally that is 0 in a state that is over, and has no thread GOING");
        for (int which = 0; which < 4; which++) {
            StringBuilder claims = new StringBuilder();
            for (int k = 0; k < 4; k++) {
                claims.append("finally ").append(k == which ? "a == 9" : "a == 1").append("; always ").append(k == which ? "a == 0" : "a >= 0").append("; ");
            }
            ScheduleHouse x = tried("cell a; thread t { pause; a = 1; pause; } " + claims, 0);
            for (int f = 0; f < 8; f++) {
                int want = f == which ? 2 : f == 4 + which ? 3 : -1;
                Checks.due("finding " + f, x.finding(0, f), want);
            }
            for (int f = 8; f < 11; f++) {
                Checks.due("finding " + f, x.finding(0, f), -1);
            }
        }
        Checks.due("all but 0 is true", tried("always -1; finally 5;", 0).finding(0, 0), -1);
        Checks.due("all but 0 is true", tried("always -1; finally 5;", 0).finding(0, 4), -1);
        Checks.due("not told, not found", tried("thread t { }", 0).finding(0, 0), -1);
        Checks.due("stuck", tried("thread t { join t; } finally 0;", 0).finding(0, 4), -1);
        Checks.due("not over", tried("thread t { while 1 { pause; } } finally 0;", 0).finding(0, 4), -1);
        Checks.due("asleep", tried("idle thread t { pause; } finally 0;", 0).finding(0, 4), 0);
        Checks.due("failed", tried("thread t { pause; assert 0; } finally 0;", 0).finding(0, 4), 1);
        Checks.due("one stuck, one ended", tried("thread t { pause; } thread u { join u; } finally 0; always 1;", 0).finding(0, 4), -1);
    }

    private static void claimsFirst() {
        Checks.says("cells, locks, threads: told anywhere");
        ScheduleHouse x = tried("always a; always r[1] == 3; finally a + r[0]; finally r[1]; cell a = 5; cell r[2] = 3;", 0);
        int[] want = {-1, -1, -1, -1, -1, -1, -1, -1};
        for (int f = 0; f < 8; f++) {
            Checks.due("finding " + f, x.finding(0, f), want[f]);
        }
        Checks.due("a is 0", tried("always a; cell a;", 0).finding(0, 0), 0);
        Checks.due("a is 0", tried("finally a; cell a;", 0).finding(0, 4), 0);
        Checks.due("r[1] is 0", tried("always r[1]; cell a = 7; cell r[2]; cell b = 7;", 0).finding(0, 0), 0);
        Checks.due("b is 0", tried("always b; cell a = 7; cell r[2] = 7; cell b; cell c = 7;", 0).finding(0, 0), 0);
    }

    private static void claimsThatFail() {
        Checks.says("An always, finally that FAILS is 0");
        ScheduleHouse x = tried("cell a = 1; thread t { a = 0; } always 5 / a; always 1 or 1 / a; always 1 mod a == 0; finally 1 / a; finally not (1 / a); finally 1 / a == 0;", 0);
        int[] want = {1, 1, 1, -1, 1, 1, 1, -1};
        for (int f = 0; f < 8; f++) {
            Checks.due("finding " + f, x.finding(0, f), want[f]);
        }
        Checks.due("no thread FAILED", x.finding(0, FAILED), -1);
    }

    private static void claimsOfWhatCame() {
        Checks.says("(of what came to cells)");
        String text = "cell a; thread t { a = 1; let i = a; assert i == 1; pause; } always a == 0; finally a == 0;";
        Checks.due("at once", tried(text, 0).finding(0, 0), 1);
        Checks.due("late", tried(text, 1).finding(1, 0), 2);
        Checks.due("over when all came", tried(text, 1).finding(1, 4), 4);
        Checks.due("no assert fails", tried(text, 1).finding(1, FAILED), -1);
    }

    private static void stuckAndFailed() {
        Checks.says("8 a STUCK one; 9 a thread FAILED");
        Checks.due("at once", tried("thread t { join t; }", 0).finding(0, STUCK), 0);
        Checks.due("one of two", tried("thread t { join t; } thread u { pause; }", 0).finding(0, STUCK), 1);
        Checks.due("all ended", tried("thread t { pause; }", 0).finding(0, STUCK), -1);
        Checks.due("failed is not stuck", tried("thread t { assert 0; }", 0).finding(0, STUCK), -1);
        Checks.due("not over", tried("thread t { join t; } thread u { while 1 { pause; } }", 0).finding(0, STUCK), -1);
        Checks.due("late ones first", tried("cell a; thread t { a = 1; join t; }", 1).finding(1, STUCK), 2);
        Checks.due("failed at once", tried("thread t { assert 0; }", 0).finding(0, FAILED), 0);
        Checks.due("failed by an act", tried("thread t { back 1; }", 0).finding(0, FAILED), 1);
        Checks.due("while others go", tried("thread t { back 1; } thread u { while 1 { pause; } }", 0).finding(0, FAILED), 1);
        Checks.due("the last thread", tried("thread t { } thread u { } thread v { } thread w { } thread x { } thread y { assert 0; }", 0).finding(0, FAILED), 0);
    }

    private static int race(String t, String u, int way) {
        return tried("cell a; cell b; cell r[2]; sure cell s; lock l; thread t { " + t + " } thread u { " + u + " } idle thread v { }", way).finding(way, RACING);
    }

    private static void racing() {
        Checks.says("10 RACING: two threads have CHOICES of ACTS that would RACE");
        String[] all = {"let i = a;", "a = 1;", "let i = swap a, 1;", "let i = add a, 1;", "let i = cas a, 0, 1;"};
        for (int i = 0; i < all.length; i++) {
            for (int j = 0; j < all.length; j++) {
                boolean races = !(i == 0 && j == 0) && !(i >= 2 && j >= 2);
                for (int way = 0; way < 2; way++) {
                    Checks.due(all[i] + " and " + all[j], race(all[i], all[j], way), races ? 0 : -1);
                    Checks.due("later: " + all[i] + " and " + all[j], race(all[i] + " pause;", "pause; " + all[j], way), races ? 1 : -1);
                    Checks.due("sure: " + all[i], race(all[i].replace("a,", "s,").replace("= a;", "= s;").replace("a =", "s ="),
                            all[j].replace("a,", "s,").replace("= a;", "= s;").replace("a =", "s ="), way), -1);
                }
            }
        }
        Checks.due("rows", race("r[1] = 1;", "r[1] = 2;", 0), 0);
        Checks.due("third thread", tried("cell a; thread t { pause; } thread u { a = 1; } thread v { a = 2; }", 0).finding(0, RACING), 0);
        Checks.due("first and last", tried("cell a; cell b; thread t { a = 1; } thread u { b = 1; } thread v { pause; } thread w { a = 2; }", 0).finding(0, RACING), 0);
    }

    private static void racingNot() {
        Checks.says("two threads have CHOICES of ACTS that would RACE (and FAIL not)");
        Checks.due("other cells", race("a = 1;", "b = 1;", 0), -1);
        Checks.due("other cells of a row", race("r[0] = 1;", "r[1] = 1;", 0), -1);
        Checks.due("locked", race("lock l { a = 1; }", "lock l { a = 1; }", 0), -1);
        Checks.due("one locked", race("lock l { a = 1; }", "a = 1;", 0), 1);
        Checks.due("one thread", race("a = 1; a = 2;", "b = 1;", 0), -1);
        Checks.due("E fails", race("a = 1 / 0;", "a = 1;", 0), -1);
        Checks.due("E fails", race("a = 1;", "let i = swap a, 1 / 0;", 0), -1);
        Checks.due("the first E of cas fails", race("a = 1;", "let i = cas a, 1 / 0, 1;", 0), -1);
        Checks.due("the second E of cas fails", race("a = 1;", "let i = cas a, 1, 1 / 0;", 0), -1);
        Checks.due("[ ] fails", race("r[2] = 1;", "r[2] = 1;", 0), -1);
        Checks.due("[ ] fails by 0", race("r[1 / 0] = 1;", "r[0] = 1;", 0), -1);
        // the next cell behind the row is another one
        Checks.due("lock 0 and cell 0", race("take l; give l;", "a = 1;", 0), -1);
        Checks.due("start and cell 2", race("start v;", "r[0] = 1;", 0), -1);
        // a late one that may come is no ACT
        Checks.due("a late one and a read", race("a = 1; join t;", "fence; pause; let i = a;", 0), 2);
        Checks.due("a late one and a read", tried("cell a; sure cell s; thread t { a = 1; s = 1; } thread u { let i = s; if i { i = a; } }", 1).finding(1, RACING), -1);
        Checks.due("a late one of each", tried("cell a; cell b; thread t { start u; a = 1; } idle thread u { b = 1; join t; a = 2; }", 1).finding(1, RACING), -1);
        // an act that can not be done is no CHOICE
        Checks.due("it can not be done yet", tried("cell a; cell b; thread t { b = 1; let i = swap a, 1; } thread u { let i = a; join t; }", 1).finding(1, RACING), 2);
        String eight = "b = 1; ".repeat(8);
        Checks.due("the 9th fails", tried("cell a; cell b; thread t { " + eight + "a = 1; } thread u { pause; a = 2; }", 0).finding(0, RACING), 9);
        Checks.due("the 9th fails", tried("cell a; cell b; thread t { " + eight + "a = 1; } thread u { pause; a = 2; }", 1).finding(1, RACING), 10);
        Checks.due("the 8th does not", tried("cell a; cell b; thread t { " + eight.substring(7) + "a = 1; } thread u { pause; a = 2; }", 1).finding(1, RACING), 8);
    }

    private static void endsAndOutcomes() {
        Checks.says("ENDS are states that are over. OUTCOMES are the different rows of all cells' values in ENDS");
        ScheduleHouse none = tried("", 0);
        Checks.due("ends of nothing", none.tried(0, 2), 1);
        Checks.due("outcomes of nothing", none.tried(0, 3), 1);
        Checks.badIndex("it has no CELL", () -> none.outcome(0, 0, 0));
        ScheduleHouse loop = tried("cell a; thread t { while 1 { pause; } }", 0);
        Checks.due("no ends", loop.tried(0, 2), 0);
        Checks.due("no outcomes", loop.tried(0, 3), 0);
        Checks.badIndex("no outcome", () -> loop.outcome(0, 0, 0));
        ScheduleHouse stuck = tried("cell a; lock k; lock l; thread t { lock k { lock l { a = 1; } } } thread u { lock l { lock k { } } }", 0);
        Checks.due("a stuck one is an end", stuck.tried(0, 2), 2);
        Checks.due("its outcome, too", stuck.tried(0, 3), 2);
        Checks.due("stuck", stuck.outcome(0, 0, 0), 0);
        Checks.due("ended", stuck.outcome(0, 1, 0), 1);
        ScheduleHouse failed = tried("cell a; thread t { a = 1; let i = a; assert i == 2; } thread u { a = 2; }", 0);
        Checks.due("a failed one is an end", failed.tried(0, 2), 3);
        Checks.due("two outcomes", failed.tried(0, 3), 2);
        ScheduleHouse late = tried("cell a; cell b; thread t { a = 1; b = 2; }", 1);
        Checks.due("over when all came", late.tried(1, 2), 1);
        Checks.due("a", late.outcome(1, 0, 0), 1);
        Checks.due("b", late.outcome(1, 0, 1), 2);
    }

    private static void sortedOutcomes() {
        Checks.says("sorted by cell 0, then 1, and so on");
        String write = "a = X; } ";
        ScheduleHouse x = tried("cell a; thread t { " + write.replace("X", "5") + "thread u { " + write.replace("X", "-5") + "thread v { " + write.replace("X", MOST)
                + "thread w { " + write.replace("X", "-" + MOST + " - 1"), 0);
        int[] want = {Integer.MIN_VALUE, -5, 5, Integer.MAX_VALUE};
        Checks.due("four", x.tried(0, 3), 4);
        for (int i = 0; i < 4; i++) {
            Checks.due("outcome " + i, x.outcome(0, i, 0), want[i]);
        }
        // three cells of 0, 1 each: the first counts most
        ScheduleHouse y = tried("cell a; cell b; cell c; thread t { a = 1; } thread u { b = 1; } thread v { c = 1; } thread w { let i = 0; a = 0; b = 0; c = 0; }", 0);
        Checks.due("eight", y.tried(0, 3), 8);
        for (int i = 0; i < 8; i++) {
            for (int c = 0; c < 3; c++) {
                Checks.due("outcome " + i + " of " + c, y.outcome(0, i, c), i >> (2 - c) & 1);
            }
        }
        // the last of 24 CELLS
        ScheduleHouse z = tried("cell r[8]; cell s[8]; cell q[8]; thread t { q[7] = 4; } thread u { q[7] = 3; q[6] = 1; }", 0);
        Checks.due("two", z.tried(0, 3), 2);
        Checks.due("the last", z.outcome(0, 0, 23), 3);
        Checks.due("the last", z.outcome(0, 1, 23), 4);
        Checks.due("the one before", z.outcome(0, 1, 22), 1);
        Checks.due("the first", z.outcome(0, 1, 0), 0);
        Checks.badIndex("CELL 24", () -> z.outcome(0, 0, 24));
    }

    private static void manyOutcomes() {
        Checks.says("OUTCOMES are the different rows");
        // t writes any of 0 .. 999 by how often it waited: each is an outcome of its own
        ScheduleHouse x = tried("cell a; sure cell go; thread t { let i = 0; while i < 700 { i = i + 1; let k = go; if k { a = i * (1 - i mod 2 * 2); end; } } } thread u { go = 1; }", 0);
        int many = x.tried(0, 3);
        Checks.due("many", many > 600, true);
        for (int i = 1; i < many; i += 97) {
            Checks.due("each is more than the one before", x.outcome(0, i, 0) > x.outcome(0, i - 1, 0), true);
        }
        Checks.due("the most", x.outcome(0, many - 1, 0) > 600, true);
        Checks.due("the least", x.outcome(0, 0, 0) < -600, true);
        Checks.badIndex("one too many", () -> x.outcome(0, many, 0));
    }

    private static void waitingThreads() {
        Checks.says("4 states in which some thread is GOING, but has no CHOICE of an ACT");
        Checks.due("none", tried("thread t { pause; }", 0).tried(0, 4), 0);
        Checks.due("stuck", tried("thread t { join t; }", 0).tried(0, 4), 1);
        Checks.due("two of them are one state", tried("thread t { join t; } thread u { join u; }", 0).tried(0, 4), 1);
        Checks.due("while another goes", tried("thread t { join t; } thread u { pause; pause; }", 0).tried(0, 4), 3);
        Checks.due("a late one alone", tried("cell a; thread t { a = 1; fence; }", 1).tried(1, 4), 1);
        Checks.due("a late one, and its act", tried("cell a; thread t { a = 1; pause; }", 1).tried(1, 4), 0);
        Checks.due("ended with late ones is not GOING", tried("cell a; thread t { a = 1; }", 1).tried(1, 4), 0);
        Checks.due("asleep is not GOING", tried("idle thread t { pause; } thread u { pause; }", 0).tried(0, 4), 0);
        Checks.says("5 CHOICES in all states");
        Checks.due("late ones, too", tried("cell a; cell b; thread t { a = 1; b = 1; pause; }", 1).tried(1, 5), 16);
        Checks.due("two that wait for ever", tried("lock l; thread t { take l; wait l; } thread u { take l; wait l; } thread v { join v; }", 0).tried(0, 5), 8);
    }

    private static void firstStates() {
        Checks.says("FINDING f (0 .. 10): how many CHOICES lead to its first state; NONE if there is none");
        // two ways to it: by three choices of t, or by two of u
        ScheduleHouse x = tried("cell a; thread t { pause; pause; a = 1; } thread u { pause; a = 1; } always a == 0;", 0);
        Checks.due("the shorter way", x.finding(0, 0), 2);
        Checks.due("show", x.show(0, 0), 2);
        Checks.due("u did it", x.act(0, 0), 1);
        Checks.due("u did it", x.act(1, 0), 1);
        // of two ways of one length the first choices
        ScheduleHouse y = tried("cell a; thread t { a = 1; } thread u { a = 1; } always a == 0;", 0);
        y.show(0, 0);
        Checks.due("the first choice", y.act(0, 0), 0);
        Checks.due("0 choices", tried("always 0;", 0).finding(0, 0), 0);
        for (int f = 0; f < 11; f++) {
            Checks.due("none", tried("thread t { pause; }", 0).finding(0, f), -1);
        }
    }

    private static void showing() {
        Checks.says("A run by that way is at the first state of FINDING f then (by the CHOICES by which it was found): how many CHOICES it has done");
        String text = "cell a; thread t { let i = 0; while i < 450 { i = i + 1; a = i; } } always a != 400; always a != 401; always a != 1; always a != 0;";
        ScheduleHouse x = tried(text, 0);
        x.attempt(1, 100);
        int[] far = {400, 401, 1, 0};
        for (int f = 0; f < 4; f++) {
            Checks.due("finding " + f, x.finding(0, f), far[f]);
        }
        Checks.due("0 CHOICES", x.show(0, 3), 0);
        Checks.due("a", x.cell(0), 0);
        Checks.due("1 CHOICE", x.show(0, 2), 1);
        Checks.due("a", x.cell(0), 1);
        Checks.due("400 CHOICES", x.show(0, 0), 400);
        Checks.due("a", x.cell(0), 400);
        Checks.due("done", x.run(1), 400);
        Checks.due("acts", x.run(2), 400);
        Checks.noState("more than 400 CHOICES lead to it", () -> x.show(0, 1));
        Checks.due("the run before it is there", x.run(1), 400);
        Checks.noState("400 were done", () -> x.go(0));
        Checks.due("by way 1", x.show(1, 2), 2);
        Checks.due("by way 1", x.run(0), 1);
        Checks.due("a late one came", x.cell(0), 1);
        Checks.due("again", x.again(1), 2);
        Checks.due("late", x.run(7), 1);
        Checks.noState("there is none", () -> x.show(1, STUCK));
        Checks.due("the run before it is there", x.run(1), 1);
        // a run may go on behind it, and what was tried stays
        x.show(0, 2);
        Checks.due("go", x.go(0), 1);
        Checks.due("a", x.cell(0), 2);
        Checks.due("finding still", x.finding(0, 2), 1);
    }

    private static void commonLocks() {
        Checks.says("COMMON locks of a cell: those that are held by the thread in each READ, WRITE, swap, add, cas of it that is a CHOICE in some state (all, if there is none)");
        StringBuilder six = new StringBuilder();
        StringBuilder takes = new StringBuilder();
        for (int l = 0; l < 6; l++) {
            six.append("lock l").append(l).append("; ");
            takes.append("take l").append(l).append("; ");
        }
        Checks.due("none of six", tried("cell a; " + six + "thread t { }", 0).common(0, 0), 63);
        Checks.due("all of six", tried("cell a; " + six + "thread t { " + takes + "a = 1; }", 0).common(0, 0), 63);
        Checks.due("not one of six", tried("cell a; " + six + "thread t { a = 1; }", 0).common(0, 0), 0);
        for (int l = 0; l < 6; l++) {
            Checks.due("lock " + l + " is 2^" + l, tried("cell a; " + six + "thread t { lock l" + l + " { a = 1; } }", 0).common(0, 0), 1 << l);
        }
        for (String s : new String[] {"let i = a;", "a = 1;", "let i = swap a, 1;", "let i = add a, 1;", "let i = cas a, 9, 1;"}) {
            for (String sure : new String[] {"", "sure "}) {
                ScheduleHouse x = tried(sure + "cell a; cell b; lock k; lock l; thread t { lock k { lock l { " + s + " } " + s + " } }", 0);
                Checks.due(s, x.common(0, 0), 1);
                Checks.due("not b", x.common(0, 1), 3);
            }
        }
        ScheduleHouse rows = tried("cell r[3]; lock k; lock l; thread t { lock k { r[0] = 1; } lock l { r[2] = 1; r[3] = 1; } }", 0);
        int[] want = {1, 3, 2};
        for (int c = 0; c < 3; c++) {
            Checks.due("r[" + c + "]", rows.common(0, c), want[c]);
        }
        Checks.due("held by another", tried("cell a; lock k; lock l; thread t { take k; } thread u { join t; a = 1; }", 0).common(0, 0), 0);
        Checks.due("two threads", tried("cell a; lock k; lock l; thread t { lock k { lock l { a = 1; } } } thread u { lock l { a = 1; } }", 0).common(0, 0), 2);
        Checks.due("what can never be", tried("cell a; lock k; thread t { lock k { a = 1; } join t; a = 1; }", 0).common(0, 0), 1);
        Checks.due("a late one that comes is none", tried("cell a; lock k; thread t { lock k { a = 1; } pause; }", 1).common(1, 0), 1);
        Checks.due("no locks", tried("cell a; thread t { a = 1; }", 0).common(0, 0), 0);
        // in way 1 swap is no CHOICE as long as there are late ones: they come, and the lock is held still
        Checks.due("by its way", tried("cell a; cell b; lock k; thread t { lock k { b = 1; let i = swap a, 1; } }", 1).common(1, 0), 1);
    }

    private static void comesBefore() {
        Checks.says("Lock a COMES BEFORE lock b if a TAKE of b is a CHOICE in some state, of a thread that holds a (a is not b)");
        String defs = "lock k; lock l; ";
        Checks.due("take", tried(defs + "thread t { take k; take l; give k; take k; }", 0).ring(0), 2);
        Checks.due("given before", tried(defs + "thread t { take k; give k; take l; give l; take k; }", 0).ring(0), 0);
        Checks.due("held by another", tried(defs + "thread t { take k; } thread u { take l; }", 0).ring(0), 0);
        Checks.due("never a CHOICE", tried(defs + "thread t { take k; take l; } thread u { take l; join u; take k; }", 0).ring(0), 0);
        Checks.due("taken once more", tried(defs + "thread t { take k; take l; take k; }", 0).ring(0), 2);
        Checks.due("a is not b", tried(defs + "thread t { take k; take k; take k; }", 0).ring(0), 0);
        Checks.due("a RETAKE is none", tried(defs + "thread t { take k; take l; wait k; } thread u { take k; wakeall k; give k; }", 0).ring(0), 0);
        Checks.due("a wait gives it", tried(defs + "thread t { take k; wait k; give k; take l; take k; } thread u { take k; wakeall k; give k; }", 0).ring(0), 0);
    }

    private static void rings() {
        Checks.says("a RING is a row of locks of which each comes before the next one, and the last one before the first ... the shortest RING");
        for (int many = 2; many <= 6; many++) {
            StringBuilder b = new StringBuilder();
            for (int l = 0; l < 6; l++) {
                b.append("lock l").append(l).append("; ");
            }
            b.append("thread t { ");
            for (int l = 0; l < many; l++) {
                b.append("lock l").append(5 - l).append(" { lock l").append(5 - (l + 1) % many).append(" { } } ");
            }
            ScheduleHouse x = tried(b + "}", 0);
            Checks.due("a ring of " + many, x.ring(0), many);
            Checks.due("not tried by way 1", x.ring(1), 0);
            x.attempt(1, 3000);
            Checks.due("a ring of " + many, x.ring(1), many);
            // one less: no ring
            String open = b.toString().replace("lock l" + (6 - many) + " { lock l5 { } } ", "") + "}";
            Checks.due("an open row", tried(open, 0).ring(0), 0);
        }
        String two = "lock a; lock b; lock c; lock d; lock e; thread t { lock a { lock b { } } lock b { lock c { } } lock c { lock a { } } lock d { lock e { } } lock e { lock d { } } }";
        Checks.due("the shortest", tried(two, 0).ring(0), 2);
        Checks.due("a way into a ring is no ring", tried("lock a; lock b; lock c; lock d; thread t { lock a { lock b { } } lock b { lock c { } } lock c { lock d { } } lock d { lock b { } } }", 0)
                .ring(0), 3);
    }

    private static void alike() {
        Checks.says("Whether both ways were tried (not PARTLY) and have the same OUTCOMES: 1; 0 they have others; NONE: one was not tried wholly");
        String same = "cell a; thread t { a = 1; } thread u { a = 2; }";
        ScheduleHouse x = Checks.compiled(same);
        Checks.due("neither", x.alike(), -1);
        x.attempt(0, 3000);
        Checks.due("way 0 alone", x.alike(), -1);
        x.attempt(1, 3000);
        Checks.due("both", x.alike(), 1);
        x.attempt(0, 1);
        Checks.due("way 0 PARTLY", x.alike(), -1);
        x.attempt(0, 4);
        Checks.due("way 0 PARTLY", x.alike(), -1);
        x.attempt(0, 5);
        Checks.due("way 0 wholly", x.alike(), 1);
        x.attempt(1, 2);
        Checks.due("way 1 PARTLY", x.alike(), -1);
        ScheduleHouse late = Checks.compiled(same);
        late.attempt(1, 3000);
        Checks.due("way 1 alone", late.alike(), -1);
        String other = "cell x; cell y; cell r; cell s; thread t { x = 1; let i = y; r = i; } thread u { y = 1; let i = x; s = i; }";
        ScheduleHouse y = tried(other, 0);
        y.attempt(1, 3000);
        Checks.due("one more by way 1", y.alike(), 0);
        Checks.due("3", y.tried(0, 3), 3);
        Checks.due("4", y.tried(1, 3), 4);
        // as many, but others: by way 1 the ninth write fails, or one has come before it
        ScheduleHouse z = tried("cell a; thread t { let i = 0; while i < 9 { i = i + 1; a = i; } end; }", 0);
        z.attempt(1, 3000);
        Checks.due("one by way 0", z.tried(0, 3), 1);
        Checks.due("two by way 1", z.tried(1, 3), 2);
        Checks.due("others", z.alike(), 0);
        ScheduleHouse w = tried("cell a; cell b; thread t { a = 1; let i = add b, 1; if i == 0 { } } thread u { let i = b; if i { i = a; assert i; } }", 0);
        w.attempt(1, 3000);
        Checks.due("the same", w.alike(), 1);
    }

    private static void notTried() {
        Checks.says("0 each if it was not tried ... all of them when it was not tried");
        ScheduleHouse x = Checks.compiled("cell a; lock k; lock l; lock m; thread t { assert 0; } always 0; finally 0;");
        for (int way = 0; way < 2; way++) {
            int w = way;
            for (int what = 0; what < 6; what++) {
                Checks.due("tried", x.tried(way, what), 0);
            }
            for (int f = 0; f < 11; f++) {
                int finding = f;
                Checks.due("finding", x.finding(way, f), -1);
                Checks.noState("show", () -> x.show(w, finding));
            }
            Checks.due("common", x.common(way, 0), 7);
            Checks.due("ring", x.ring(way), 0);
            Checks.badIndex("outcome", () -> x.outcome(w, 0, 0));
        }
        x.attempt(1, 10);
        Checks.due("way 1 is tried", x.tried(1, 0), 1);
        Checks.due("way 0 is not", x.tried(0, 0), 0);
        Checks.due("way 0 is not", x.finding(0, 0), -1);
        Checks.badIndex("way 0 is not", () -> x.outcome(0, 0, 0));
        Checks.due("way 1 is tried", x.outcome(1, 0, 0), 0);
    }

    private static void anew() {
        Checks.says("Of the latest trying of a way");
        ScheduleHouse x = Checks.compiled("cell a; lock l; lock m; thread t { a = 1; lock l { lock m { } } lock m { lock l { a = 2; } } assert 0; } always a != 2; finally 0;");
        x.attempt(0, 3000);
        int[] all = new int[6];
        for (int what = 0; what < 6; what++) {
            all[what] = x.tried(0, what);
        }
        Checks.due("ring", x.ring(0), 2);
        Checks.due("common", x.common(0, 0), 0);
        x.attempt(0, 1);
        int[] one = {1, 1, 0, 0, 0, 1};
        for (int what = 0; what < 6; what++) {
            Checks.due("of one state", x.tried(0, what), one[what]);
        }
        Checks.due("no ring", x.ring(0), 0);
        Checks.due("no finding", x.finding(0, 0), -1);
        Checks.due("no finding", x.finding(0, 4), -1);
        Checks.due("no finding", x.finding(0, FAILED), -1);
        Checks.noState("nothing to show", () -> x.show(0, 0));
        Checks.badIndex("no outcome", () -> x.outcome(0, 0, 0));
        x.attempt(0, 3000);
        for (int what = 0; what < 6; what++) {
            Checks.due("as at first", x.tried(0, what), all[what]);
        }
        Checks.due("ring", x.ring(0), 2);
        // a refused one leaves the latest
        Checks.badArgument("limit", () -> x.attempt(0, 0));
        Checks.badArgument("limit", () -> x.attempt(0, 3001));
        Checks.due("as before", x.tried(0, 0), all[0]);
    }

    private static void wrongArguments() {
        Checks.says("IllegalArgumentException: way, limit");
        ScheduleHouse x = Checks.compiled("cell a; thread t { a = 1; }");
        for (int limit : new int[] {0, -1, 3001, Integer.MAX_VALUE, Integer.MIN_VALUE}) {
            Checks.badArgument("attempt(0, " + limit + ")", () -> x.attempt(0, limit));
            Checks.noState("attempt(0, " + limit + ") of nothing", () -> new ScheduleHouse().attempt(0, limit));
        }
        Checks.due("not tried", x.tried(0, 0), 0);
        Checks.due("LIMIT 1", x.attempt(0, 1), 1);
        Checks.due("LIMIT 3000", x.attempt(1, 3000), 3);
        for (int way : new int[] {-1, 2, Integer.MAX_VALUE, Integer.MIN_VALUE}) {
            Checks.badArgument("attempt(" + way + ", 1)", () -> x.attempt(way, 1));
            Checks.badArgument("tried(" + way + ", 0)", () -> x.tried(way, 0));
            Checks.badArgument("tried(" + way + ", 6)", () -> x.tried(way, 6));
            Checks.badArgument("outcome(" + way + ", 0, 0)", () -> x.outcome(way, 0, 0));
            Checks.badArgument("outcome(" + way + ", 9, 9)", () -> x.outcome(way, 9, 9));
            Checks.badArgument("finding(" + way + ", 0)", () -> x.finding(way, 0));
            Checks.badArgument("show(" + way + ", 0)", () -> x.show(way, 0));
            Checks.badArgument("common(" + way + ", 0)", () -> x.common(way, 0));
            Checks.badArgument("common(" + way + ", 9)", () -> x.common(way, 9));
            Checks.badArgument("ring(" + way + ")", () -> x.ring(way));
        }
        for (int f : new int[] {-1, 11, 12, Integer.MAX_VALUE, Integer.MIN_VALUE}) {
            Checks.badArgument("finding(0, " + f + ")", () -> x.finding(0, f));
            Checks.badArgument("show(0, " + f + ")", () -> x.show(0, f));
            Checks.badArgument("show of nothing", () -> new ScheduleHouse().show(0, f));
        }
        for (int what : new int[] {-1, 6, 7, Integer.MAX_VALUE, Integer.MIN_VALUE}) {
            Checks.badIndex("tried(0, " + what + ")", () -> x.tried(0, what));
            Checks.badIndex("tried of nothing", () -> new ScheduleHouse().tried(0, what));
        }
        for (int i : new int[] {-1, 1, 2, Integer.MAX_VALUE, Integer.MIN_VALUE}) {
            Checks.badIndex("outcome(1, " + i + ", 0)", () -> x.outcome(1, i, 0));
            Checks.badIndex("outcome(1, 0, " + i + ")", () -> x.outcome(1, 0, i));
            Checks.badIndex("common(1, " + i + ")", () -> x.common(1, i));
            Checks.badIndex("common of nothing", () -> new ScheduleHouse().common(1, i));
        }
        Checks.due("the last one", x.outcome(1, 0, 0), 1);
    }
}
