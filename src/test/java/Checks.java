/** What the tests of this project share: feeding a text, comparing answers, and waiting for exceptions. */
final class Checks {
    static final int NONE = ScheduleHouse.NONE;

    private static int wrong = 0;
    private static int right = 0;
    private static String sentence = "";

    private Checks() {
    }

    /** The words of the document that the next checks are about. */
    static void says(String words) {
        sentence = "'" + words + "': ";
    }

    static void due(String what, long got, long want) {
        if (got == want) {
            right++;
        } else {
            wrong++;
            if (wrong <= 50) {
                System.out.println(sentence + (what.length() > 1500 ? what.substring(0, 1500) + " .." : what) + " answered " + got + ", due is " + want);
            }
        }
    }

    static void due(String what, boolean got, boolean want) {
        due(what, got ? 1 : 0, want ? 1 : 0);
    }

    static void noState(String what, Runnable call) {
        throwing(what, call, IllegalStateException.class);
    }

    static void badArgument(String what, Runnable call) {
        throwing(what, call, IllegalArgumentException.class);
    }

    static void badIndex(String what, Runnable call) {
        throwing(what, call, IndexOutOfBoundsException.class);
    }

    private static void throwing(String what, Runnable call, Class<?> wanted) {
        String got = "nothing";
        try {
            call.run();
        } catch (RuntimeException e) {
            got = e.getClass().getName();
        }
        if (got.equals(wanted.getName())) {
            right++;
        } else {
            wrong++;
            System.out.println(sentence + what + " threw " + got + ", due is " + wanted.getName());
        }
    }

    static void feed(ScheduleHouse house, String text) {
        for (int at = 0; at < text.length(); at += 8) {
            int n = Math.min(8, text.length() - at);
            long bytes = 0;
            for (int i = n - 1; i >= 0; i--) {
                bytes = bytes << 8 | text.charAt(at + i) & 255;
            }
            house.feed(n, bytes);
        }
    }

    static ScheduleHouse fed(String text) {
        ScheduleHouse house = new ScheduleHouse();
        feed(house, text);
        return house;
    }

    /** A house whose text has no fault. */
    static ScheduleHouse compiled(String text) {
        ScheduleHouse house = fed(text);
        int answer = house.compile();
        if (answer < 0) {
            due("compile() of " + text + " at " + house.fault(0), answer, 0);
        }
        return house;
    }

    static ScheduleHouse begun(String text, int way) {
        ScheduleHouse house = compiled(text);
        house.begin(way);
        return house;
    }

    /** The text has the fault number, and the place where the mark @ stands in the text (which is taken out). */
    static void fault(String marked, int number) {
        int place = marked.indexOf('@');
        String text = marked.substring(0, place) + marked.substring(place + 1);
        ScheduleHouse house = fed(text);
        due("compile() of " + text, house.compile(), -number);
        due("fault(0) of " + text, house.fault(0), place);
        due("fault(1) of " + text, house.fault(1), 1 + text.substring(0, place).chars().filter(b -> b == 10).count());
        due("count(2) of " + text, house.count(2), 0);
    }

    /** As fault(), of a text that has no mark. */
    static void faultAt(String text, int number, int place) {
        fault(text.substring(0, place) + '@' + text.substring(place), number);
    }

    static void good(String text, int threads) {
        ScheduleHouse house = fed(text);
        due("compile() of " + text, house.compile(), threads);
        due("fault(0) of " + text, house.fault(0), NONE);
        due("fault(1) of " + text, house.fault(1), NONE);
    }

    static void end() {
        System.out.println(wrong == 0 ? right + " answers are as due" : wrong + " answers are not as due");
        if (wrong != 0) {
            System.exit(1);
        }
    }
}
