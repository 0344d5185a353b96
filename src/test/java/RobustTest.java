import java.lang.management.ManagementFactory;
import java.util.Random;

/** Any calls in any order: each throws what its promise names and nothing else, and the room that they take is small. */
public final class RobustTest {
    private static final Class<?> STATE = IllegalStateException.class;
    private static final Class<?> ARGUMENT = IllegalArgumentException.class;
    private static final Class<?> INDEX = IndexOutOfBoundsException.class;
    private static final int CALLS = 30;

    private RobustTest() {
    }

    public static void main(String[] args) {
        int rounds = args.length > 0 ? Integer.parseInt(args[0]) : 300;
        for (int seed = 0; seed < rounds; seed++) {
            round(seed);
        }
        noise();
        room();
        sameAnswers();
        Checks.end();
    }

    private static int number(Random random) {
        int[] edges = {0, 1, 2, 3, 4, 5, 6, 7, 8, -1, -2, 10, 11, 12, 399, 400, 401, 3000, 3001, Integer.MAX_VALUE, Integer.MIN_VALUE};
        return random.nextInt(4) == 0 ? edges[random.nextInt(edges.length)] : random.nextInt(4);
    }

    private static void feedSome(ScheduleHouse x, Random random, long seed) {
        String made = Maker.text(seed + random.nextInt(1000));
        x.wipe();
        Checks.feed(x, random.nextInt(4) == 0 ? Maker.spoiled(made, random) : made);
        x.compile();
    }

    private static void round(long seed) {
        Random random = new Random(seed);
        ScheduleHouse x = new ScheduleHouse();
        for (int k = 0; k < 300; k++) {
            if (random.nextInt(60) == 0) {
                feedSome(x, random, seed);
            }
            int call = random.nextInt(20) == 0 ? random.nextInt(6) : 6 + random.nextInt(CALLS - 6);
            Class<?> thrown = null;
            try {
                call(x, call, number(random), number(random), number(random));
            } catch (RuntimeException e) {
                thrown = e.getClass();
            }
            Checks.due("call " + call + " of seed " + seed + " threw " + thrown, mayThrow(call, thrown), true);
        }
    }

    private static boolean mayThrow(int call, Class<?> thrown) {
        if (thrown == null) {
            return true;
        }
        switch (call) {
            case 0:
            case 26:
            case 28:
                return thrown == ARGUMENT;
            case 3:
            case 4:
                return thrown == INDEX;
            case 1:
            case 2:
            case 29:
                return false;
            case 5:
            case 9:
            case 10:
            case 21:
            case 22:
            case 27:
                return thrown == STATE || thrown == ARGUMENT;
            case 6:
                return thrown == STATE;
            case 23:
            case 24:
            case 25:
                return thrown == ARGUMENT || thrown == INDEX;
            default:
                return thrown == STATE || thrown == INDEX;
        }
    }

    private static void call(ScheduleHouse x, int call, int a, int b, int c) {
        switch (call) {
            case 0:
                x.feed(a, ((long) b << 32) ^ c);
                break;
            case 1:
                x.wipe();
                break;
            case 2:
                x.compile();
                break;
            case 3:
                x.fault(a);
                break;
            case 4:
                x.count(a);
                break;
            case 5:
                x.begin(a);
                break;
            case 6:
                x.choices();
                break;
            case 7:
                x.choice(a, b);
                break;
            case 8:
                x.go(a);
                break;
            case 9:
                x.draw(a, b);
                break;
            case 10:
                x.again(a);
                break;
            case 11:
                x.run(a);
                break;
            case 12:
                x.cell(a);
                break;
            case 13:
                x.seen(a, b);
                break;
            case 14:
                x.lock(a, b);
                break;
            default:
                moreCalls(x, call, a, b, c);
        }
    }

    private static void moreCalls(ScheduleHouse x, int call, int a, int b, int c) {
        switch (call) {
            case 15:
                x.thread(a, b);
                break;
            case 16:
                x.local(a, b);
                break;
            case 17:
                x.act(a, b);
                break;
            case 18:
                x.before(a, b);
                break;
            case 19:
                x.race(a, b);
                break;
            case 20:
                x.begin(a & 1);
                break;
            case 21:
                x.linear(a);
                break;
            case 22:
                x.attempt(a, b);
                break;
            case 23:
                x.tried(a, b);
                break;
            case 24:
                x.outcome(a, b, c);
                break;
            case 25:
                x.common(a, b);
                break;
            case 26:
                x.finding(a, b);
                break;
            case 27:
                x.show(a, b);
                break;
            case 28:
                x.ring(a);
                break;
            default:
                x.alike();
        }
    }

    /** Texts of any bytes, and of tokens in any order. */
    private static void noise() {
        String[] bits = {"cell ", "sure ", "lock ", "thread ", "idle ", "a ", "b ", "t ", "{", "}", "[", "]", "(", ")", ";", "=", "1 ", "9 ", "let ",
            "if ", "else ", "while ", "swap ", "add ", "cas ", ",", "not ", "-", "+", "self ", "always ", "finally ", "call ", "back ", "end ", "take "};
        Random random = new Random(5);
        for (int k = 0; k < 3000; k++) {
            StringBuilder b = new StringBuilder();
            int many = 1 + random.nextInt(k % 50 == 0 ? 1500 : 30);
            for (int i = 0; i < many && b.length() < 2990; i++) {
                b.append(k % 3 == 0 ? String.valueOf((char) random.nextInt(256)) : bits[random.nextInt(bits.length)]);
            }
            ScheduleHouse x = Checks.fed(b.toString());
            int answer = x.compile();
            Checks.due("compile answers -7 .. 6", answer >= -7 && answer <= 6, true);
            Checks.due("a fault has a place", x.fault(0) >= 0, answer < 0);
        }
    }

    private static long made() {
        return ((com.sun.management.ThreadMXBean) ManagementFactory.getThreadMXBean()).getThreadAllocatedBytes(Thread.currentThread().getId());
    }

    /** The dearest calls of one object, 512 of them: 7.3 million elements are some 29 million bytes. */
    private static void room() {
        StringBuilder text = new StringBuilder("cell a[8]; cell b[8]; cell c[8]; lock l; ");
        for (int t = 0; t < 6; t++) {
            text.append("thread t").append(t).append(" { let i = 0; while 1 { i = i + 1; a[i mod 8] = i; b[i mod 7] = i; call 0, i; back 0; } } ");
        }
        String wide = "cell a[8]; cell b[8]; thread t { let i = 0; while i < 2000 { i = i + 1; let j = a[self]; a[i mod 8] = i; if i mod 3 == 0 { end; } } } "
                + "thread u { let i = 0; while i < 50 { i = i + 1; b[i mod 8] = i; } }";
        long before = made();
        ScheduleHouse x = new ScheduleHouse();
        long one = made() - before;
        Checks.due("a new house makes " + one + " bytes", one < 400000, true);
        for (int k = 0; k < 7; k++) {
            x.wipe();
            String now = k % 2 == 0 ? text.toString() : wide;
            Checks.feed(x, now);
            x.compile();
            for (int way = 0; way < 2; way++) {
                x.attempt(way, 3000);
                x.begin(way);
                x.draw(k, 400);
                x.again(400 < x.run(1) ? 400 : x.run(1));
                x.run(5);
                x.linear(1);
            }
        }
        long all = made() - before;
        Checks.due("all calls make " + all + " bytes", all < 6000000, true);
        before = made();
        for (int k = 0; k < 60; k++) {
            x.attempt(k % 2, 3000);
            x.compile();
            x.attempt(k % 2, 3000);
            x.begin(k % 2);
            x.draw(k, 400);
            x.alike();
        }
        long later = made() - before;
        Checks.due("later calls make " + later + " bytes", later < 200000, true);
    }

    /** The same calls give the same answers, whatever the object was used for before. */
    private static void sameAnswers() {
        ScheduleHouse used = new ScheduleHouse();
        for (int k = 0; k < 20; k++) {
            String made = Maker.text(7000 + k);
            ScheduleHouse fresh = Checks.fed(made);
            used.wipe();
            Checks.feed(used, made);
            Checks.due("compile", used.compile(), fresh.compile());
            for (int way = 0; way < 2; way++) {
                Checks.due("begin", used.begin(way), fresh.begin(way));
                Checks.due("draw", used.draw(k, 100), fresh.draw(k, 100));
                Checks.due("races", used.run(5), fresh.run(5));
                Checks.due("attempt", used.attempt(way, 500), fresh.attempt(way, 500));
                for (int what = 0; what < 6; what++) {
                    Checks.due("tried", used.tried(way, what), fresh.tried(way, what));
                }
            }
        }
    }
}
