import java.util.ArrayList;
import java.util.List;

/** Each refused call throws what its promise names, and all that was there before it is there after it. */
public final class RefusalTest {
    private static final int[] FAR = {Integer.MIN_VALUE, -1000000, -2, -1, 1000000, Integer.MAX_VALUE};
    private static final String TEXT = "cell a; cell r[2]; lock l; thread t { let i = 4; a = i; call 1, 2; lock l { r[1] = 2; back 7; pause; } pause; }"
            + " thread u { r[1] = 3; let j = a; take l; } always a < 4; finally 0;";

    public static void main(String[] args) {
        whileBusy();
        whileNothingIsCompiled();
        whileThereIsNoRun();
        whenFourHundredWereDone();
        refusedFeeds();
        whichOneFirst();
        Checks.end();
    }

    /** What is called, and which exception has to come. */
    private static final class Refusal {
        final String what;
        final Class<?> wanted;
        final java.util.function.Consumer<ScheduleHouse> call;

        Refusal(String what, Class<?> wanted, java.util.function.Consumer<ScheduleHouse> call) {
            this.what = what;
            this.wanted = wanted;
            this.call = call;
        }
    }

    private static ScheduleHouse busy() {
        ScheduleHouse x = Checks.compiled(TEXT);
        x.attempt(0, 60);
        x.attempt(1, 40);
        x.begin(1);
        for (int i : new int[] {0, 2, 0, 1, 0, 0}) {
            x.go(i % x.choices());
        }
        return x;
    }

    /** All that can be asked of a house without changing it; short enough for twice within 512 calls. */
    private static String told(ScheduleHouse x) {
        StringBuilder b = new StringBuilder();
        for (int what = 0; what < 5; what++) {
            b.append(x.count(what)).append(' ');
        }
        b.append(x.fault(0)).append(' ').append(x.fault(1)).append(" | ");
        for (int way = 0; way < 2; way++) {
            for (int what = 0; what < 6; what++) {
                b.append(x.tried(way, what)).append(' ');
            }
            for (int f = 0; f < 11; f++) {
                b.append(x.finding(way, f)).append(' ');
            }
            for (int i = 0; i < Math.min(3, x.tried(way, 3)); i++) {
                b.append(x.outcome(way, i, 0)).append(' ').append(x.outcome(way, i, 2)).append(' ');
            }
            b.append(x.count(0) > 0 ? x.common(way, 0) : 0).append(' ').append(x.ring(way)).append(" | ");
        }
        return b.append(x.alike()).append(" | ").toString();
    }

    private static String toldOfRun(ScheduleHouse x) {
        StringBuilder b = new StringBuilder();
        for (int what = 0; what < 8; what++) {
            b.append(x.run(what)).append(' ');
        }
        int choices = x.choices();
        for (int i = 0; i < choices; i++) {
            b.append(x.choice(i, 0)).append(x.choice(i, 1)).append(x.choice(i, 2)).append(x.choice(i, 3)).append(' ');
        }
        for (int c = 0; c < 3; c++) {
            b.append(x.cell(c)).append(' ').append(x.seen(0, c)).append(' ');
        }
        for (int t = 0; t < 2; t++) {
            for (int what = 0; what < 5; what++) {
                b.append(x.thread(t, what)).append(' ');
            }
            for (int i = 0; i < x.thread(t, 3); i++) {
                b.append(x.local(t, i)).append(' ');
            }
        }
        b.append(x.lock(0, 0)).append(x.lock(0, 1)).append(x.lock(0, 2)).append(" | ");
        int acts = Math.min(6, x.run(2));
        for (int a = 0; a < acts; a++) {
            b.append(x.act(a, 0)).append(x.act(a, 1)).append(x.act(a, 3)).append(x.act(a, 4)).append(x.before(0, a)).append(' ');
        }
        for (int i = 0; i < Math.min(2, x.run(5)); i++) {
            b.append(x.race(i, 0)).append(x.race(i, 1)).append(' ');
        }
        return b.append(x.linear(0)).append(x.linear(1)).toString();
    }

    private static void refused(Refusal refusal, ScheduleHouse x, boolean withRun) {
        String before = told(x) + (withRun ? toldOfRun(x) : "");
        if (refusal.wanted == IllegalStateException.class) {
            Checks.noState(refusal.what, () -> refusal.call.accept(x));
        } else if (refusal.wanted == IllegalArgumentException.class) {
            Checks.badArgument(refusal.what, () -> refusal.call.accept(x));
        } else {
            Checks.badIndex(refusal.what, () -> refusal.call.accept(x));
        }
        String after = told(x) + (withRun ? toldOfRun(x) : "");
        Checks.due("what is told behind " + refusal.what + ":\n" + before + "\n" + after + "\n", before.equals(after), true);
    }

    /** All values that an argument may not have, where 0 .. most are right. */
    private static List<Integer> wrong(int most) {
        List<Integer> list = new ArrayList<>();
        for (int far : FAR) {
            list.add(far);
        }
        list.add(most + 1);
        list.add(most + 2);
        return list;
    }

    private static void ofRun(List<Refusal> list) {
        Class<?> index = IndexOutOfBoundsException.class;
        Class<?> argument = IllegalArgumentException.class;
        ScheduleHouse x = busy();
        int choices = x.choices();
        int acts = x.run(2);
        int done = x.run(1);
        int races = x.run(5);
        int known = x.thread(0, 3);
        for (int n : wrong(choices - 1)) {
            list.add(new Refusal("choice(" + n + ", 0)", index, h -> h.choice(n, 0)));
            list.add(new Refusal("go(" + n + ")", index, h -> h.go(n)));
        }
        for (int n : wrong(4)) {
            list.add(new Refusal("choice(0, " + n + ")", index, h -> h.choice(0, n)));
            list.add(new Refusal("thread(0, " + n + ")", index, h -> h.thread(0, n)));
            list.add(new Refusal("act(0, " + n + ")", index, h -> h.act(0, n)));
        }
        for (int n : wrong(400)) {
            list.add(new Refusal("draw(1, " + n + ")", argument, h -> h.draw(1, n)));
        }
        for (int n : wrong(done)) {
            list.add(new Refusal("again(" + n + ")", argument, h -> h.again(n)));
        }
        for (int n : wrong(7)) {
            list.add(new Refusal("run(" + n + ")", index, h -> h.run(n)));
        }
        for (int n : wrong(2)) {
            list.add(new Refusal("cell(" + n + ")", index, h -> h.cell(n)));
            list.add(new Refusal("seen(0, " + n + ")", index, h -> h.seen(0, n)));
            list.add(new Refusal("lock(0, " + n + ")", index, h -> h.lock(0, n)));
        }
        for (int n : wrong(1)) {
            list.add(new Refusal("seen(" + n + ", 0)", index, h -> h.seen(n, 0)));
            list.add(new Refusal("thread(" + n + ", 0)", index, h -> h.thread(n, 0)));
            list.add(new Refusal("local(" + n + ", 0)", index, h -> h.local(n, 0)));
            list.add(new Refusal("race(0, " + n + ")", index, h -> h.race(0, n)));
            list.add(new Refusal("begin(" + n + ")", argument, h -> h.begin(n)));
        }
        for (int n : wrong(0)) {
            list.add(new Refusal("lock(" + n + ", 0)", index, h -> h.lock(n, 0)));
        }
        for (int n : wrong(known - 1)) {
            list.add(new Refusal("local(0, " + n + ")", index, h -> h.local(0, n)));
        }
        for (int n : wrong(acts - 1)) {
            list.add(new Refusal("act(" + n + ", 0)", index, h -> h.act(n, 0)));
            list.add(new Refusal("before(" + n + ", 0)", index, h -> h.before(n, 0)));
            list.add(new Refusal("before(0, " + n + ")", index, h -> h.before(0, n)));
        }
        for (int n : wrong(races - 1)) {
            list.add(new Refusal("race(" + n + ", 0)", index, h -> h.race(n, 0)));
        }
        for (int n : wrong(3)) {
            list.add(new Refusal("linear(" + n + ")", argument, h -> h.linear(n)));
        }
    }

    private static void ofTrying(List<Refusal> list) {
        Class<?> index = IndexOutOfBoundsException.class;
        Class<?> argument = IllegalArgumentException.class;
        int outcomes = busy().tried(0, 3);
        for (int n : wrong(1)) {
            list.add(new Refusal("attempt(" + n + ", 5)", argument, h -> h.attempt(n, 5)));
            list.add(new Refusal("tried(" + n + ", 0)", argument, h -> h.tried(n, 0)));
            list.add(new Refusal("outcome(" + n + ", 0, 0)", argument, h -> h.outcome(n, 0, 0)));
            list.add(new Refusal("finding(" + n + ", 0)", argument, h -> h.finding(n, 0)));
            list.add(new Refusal("show(" + n + ", 0)", argument, h -> h.show(n, 0)));
            list.add(new Refusal("common(" + n + ", 0)", argument, h -> h.common(n, 0)));
            list.add(new Refusal("ring(" + n + ")", argument, h -> h.ring(n)));
            list.add(new Refusal("fault(" + n + ")", index, h -> h.fault(n)));
        }
        for (int n : wrong(3000)) {
            list.add(new Refusal("attempt(0, " + n + ")", argument, h -> h.attempt(0, n)));
            list.add(new Refusal("attempt(1, " + n + ")", argument, h -> h.attempt(1, n)));
        }
        list.add(new Refusal("attempt(0, 0)", argument, h -> h.attempt(0, 0)));
        for (int n : wrong(4)) {
            list.add(new Refusal("count(" + n + ")", index, h -> h.count(n)));
        }
        for (int n : wrong(5)) {
            list.add(new Refusal("tried(0, " + n + ")", index, h -> h.tried(0, n)));
        }
        for (int n : wrong(10)) {
            list.add(new Refusal("finding(0, " + n + ")", argument, h -> h.finding(0, n)));
            list.add(new Refusal("show(0, " + n + ")", argument, h -> h.show(0, n)));
        }
        for (int n : wrong(outcomes - 1)) {
            list.add(new Refusal("outcome(0, " + n + ", 0)", index, h -> h.outcome(0, n, 0)));
        }
        for (int n : wrong(2)) {
            if (outcomes > 0) {
                list.add(new Refusal("outcome(0, 0, " + n + ")", index, h -> h.outcome(0, 0, n)));
            }
            list.add(new Refusal("common(0, " + n + ")", index, h -> h.common(0, n)));
        }
        list.add(new Refusal("show of none", IllegalStateException.class, h -> h.show(0, 3)));
        for (int n : wrong(8)) {
            list.add(new Refusal("feed(" + n + ", 32)", argument, h -> h.feed(n, 32)));
        }
        list.add(new Refusal("feed(0, 32)", argument, h -> h.feed(0, 32)));
    }

    private static void whileBusy() {
        Checks.says("a refused call leaves all as it was");
        ScheduleHouse x = busy();
        Checks.due("there are races", x.run(5) > 0, true);
        Checks.due("there are choices", x.choices() > 0, true);
        Checks.due("there are locals", x.thread(0, 3) > 0, true);
        Checks.due("there are late ones", x.run(7) > 0, true);
        Checks.due("there are outcomes", x.tried(0, 3) > 0, true);
        List<Refusal> list = new ArrayList<>();
        ofRun(list);
        ofTrying(list);
        for (Refusal r : list) {
            ScheduleHouse y = busy();
            refused(r, y, true);
            Checks.due("its text is as it was behind " + r.what, y.wipe(), TEXT.length());
        }
    }

    private static List<Refusal> needCompiled() {
        Class<?> state = IllegalStateException.class;
        List<Refusal> list = new ArrayList<>();
        list.add(new Refusal("begin(0)", state, h -> h.begin(0)));
        list.add(new Refusal("begin(1)", state, h -> h.begin(1)));
        list.add(new Refusal("attempt(0, 1)", state, h -> h.attempt(0, 1)));
        list.add(new Refusal("attempt(1, 3000)", state, h -> h.attempt(1, 3000)));
        return list;
    }

    private static List<Refusal> needRun() {
        Class<?> state = IllegalStateException.class;
        List<Refusal> list = new ArrayList<>();
        list.add(new Refusal("choices()", state, h -> h.choices()));
        list.add(new Refusal("choice(0, 0)", state, h -> h.choice(0, 0)));
        list.add(new Refusal("go(0)", state, h -> h.go(0)));
        list.add(new Refusal("draw(1, 1)", state, h -> h.draw(1, 1)));
        list.add(new Refusal("draw(1, 0)", state, h -> h.draw(1, 0)));
        list.add(new Refusal("again(0)", state, h -> h.again(0)));
        list.add(new Refusal("run(0)", state, h -> h.run(0)));
        list.add(new Refusal("cell(0)", state, h -> h.cell(0)));
        list.add(new Refusal("seen(0, 0)", state, h -> h.seen(0, 0)));
        list.add(new Refusal("lock(0, 0)", state, h -> h.lock(0, 0)));
        list.add(new Refusal("thread(0, 0)", state, h -> h.thread(0, 0)));
        list.add(new Refusal("local(0, 0)", state, h -> h.local(0, 0)));
        list.add(new Refusal("act(0, 0)", state, h -> h.act(0, 0)));
        list.add(new Refusal("before(0, 0)", state, h -> h.before(0, 0)));
        list.add(new Refusal("race(0, 0)", state, h -> h.race(0, 0)));
        list.add(new Refusal("linear(0)", state, h -> h.linear(0)));
        return list;
    }

    private static void whileNothingIsCompiled() {
        Checks.says("IllegalStateException: nothing is compiled; there is no run");
        List<Refusal> list = needCompiled();
        list.addAll(needRun());
        list.add(new Refusal("show(0, 10)", IllegalStateException.class, h -> h.show(0, 10)));
        list.add(new Refusal("common(0, 0)", IndexOutOfBoundsException.class, h -> h.common(0, 0)));
        list.add(new Refusal("outcome(0, 0, 0)", IndexOutOfBoundsException.class, h -> h.outcome(0, 0, 0)));
        for (Refusal r : list) {
            refused(r, new ScheduleHouse(), false);
            refused(r, Checks.fed(TEXT), false);
            ScheduleHouse bad = Checks.fed(TEXT + "$");
            bad.compile();
            refused(r, bad, false);
            ScheduleHouse more = busy();
            more.feed(1, 32);
            refused(r, more, false);
            ScheduleHouse wiped = busy();
            wiped.wipe();
            refused(r, wiped, false);
        }
    }

    private static void whileThereIsNoRun() {
        Checks.says("IllegalStateException: there is no run");
        for (Refusal r : needRun()) {
            ScheduleHouse x = Checks.compiled(TEXT);
            refused(r, x, false);
            x.attempt(0, 60);
            refused(r, x, false);
            ScheduleHouse anew = busy();
            anew.compile();
            refused(r, anew, false);
            ScheduleHouse none = Checks.compiled("");
            refused(r, none, false);
        }
        ScheduleHouse shown = Checks.compiled(TEXT);
        shown.attempt(0, 60);
        shown.show(0, 0);
        Checks.due("show() makes one", shown.choices() > 0, true);
    }

    private static void whenFourHundredWereDone() {
        Checks.says("IllegalStateException: there is no run, or 400 were done");
        for (int i : new int[] {0, 1, -1, 2, 400}) {
            ScheduleHouse x = Checks.compiled("cell a; cell r[2]; lock l; thread t { let i = 1; while 1 { a = i; i = i + 1; } } thread u { pause; }");
            x.begin(0);
            x.draw(1, 400);
            refused(new Refusal("go(" + i + ") behind 400", IllegalStateException.class, h -> h.go(i)), x, true);
        }
    }

    private static void refusedFeeds() {
        Checks.says("or it would have more than 3000");
        for (int n = 1; n <= 8; n++) {
            int more = n;
            ScheduleHouse x = Checks.compiled(TEXT + " ".repeat(3001 - n - TEXT.length()));
            x.begin(0);
            x.go(0);
            Checks.badArgument("feed(" + n + ")", () -> x.feed(more, 0x2020202020202020L));
            Checks.due("its run is there", x.run(1), 1);
            Checks.due("it is compiled", x.count(2), 2);
            Checks.due("its text is as it was", x.wipe(), 3001 - n);
        }
    }

    /** Where two things are wrong at once, what the promise tells first. */
    private static void whichOneFirst() {
        Checks.says("the exceptions as they stand in each promise");
        ScheduleHouse none = Checks.compiled(TEXT);
        Checks.noState("choice", () -> none.choice(-1, -1));
        Checks.noState("go", () -> none.go(-1));
        Checks.noState("draw", () -> none.draw(1, -1));
        Checks.noState("again", () -> none.again(-1));
        Checks.noState("run", () -> none.run(-1));
        Checks.noState("cell", () -> none.cell(-1));
        Checks.noState("seen", () -> none.seen(-1, -1));
        Checks.noState("lock", () -> none.lock(-1, -1));
        Checks.noState("thread", () -> none.thread(-1, -1));
        Checks.noState("local", () -> none.local(-1, -1));
        Checks.noState("act", () -> none.act(-1, -1));
        Checks.noState("before", () -> none.before(-1, -1));
        Checks.noState("race", () -> none.race(-1, -1));
        Checks.noState("linear", () -> none.linear(-1));
        Checks.noState("begin", () -> new ScheduleHouse().begin(-1));
        Checks.noState("attempt", () -> new ScheduleHouse().attempt(-1, -1));
        Checks.badArgument("tried", () -> none.tried(-1, -1));
        Checks.badArgument("outcome", () -> none.outcome(-1, -1, -1));
        Checks.badArgument("common", () -> none.common(-1, -1));
        Checks.badArgument("show, a way", () -> none.show(-1, 0));
        Checks.badArgument("show, a finding", () -> none.show(0, -1));
        Checks.badArgument("finding", () -> none.finding(-1, -1));
    }
}
