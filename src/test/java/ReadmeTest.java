import java.lang.reflect.InvocationTargetException;
import java.lang.reflect.Method;
import java.nio.file.Files;
import java.nio.file.Path;
import java.util.List;
import java.util.regex.Matcher;
import java.util.regex.Pattern;

/** What README.md shows: its text is fed, its calls are made one after the other, and each answers what stands behind it. */
public final class ReadmeTest {
    private static final Pattern TEXT = Pattern.compile("^(?:String text =| *\\+) \"(.*)\\\\n\";?$");
    private static final Pattern CALL = Pattern.compile("^house\\.(\\w+)\\(([-0-9, ]*)\\); +// ([-\\w]+).*$");

    private ReadmeTest() {
    }

    public static void main(String[] args) throws Exception {
        List<String> lines = Files.readAllLines(Path.of(args.length > 0 ? args[0] : "README.md"));
        StringBuilder text = new StringBuilder();
        ScheduleHouse house = null;
        int calls = 0;
        for (String line : lines) {
            Matcher part = TEXT.matcher(line);
            if (part.matches()) {
                text.append(part.group(1)).append('\n');
            }
            Matcher call = CALL.matcher(line);
            if (call.matches()) {
                if (house == null) {
                    house = Checks.fed(text.toString());
                    Checks.due("the bytes of the text", house.feed(1, 32) - 1, 94);
                }
                compare(house, call.group(1), call.group(2), call.group(3));
                calls++;
            }
        }
        Checks.due("so many calls stand in the README", calls, 40);
        Checks.end();
    }

    private static void compare(ScheduleHouse house, String name, String given, String want) throws Exception {
        String[] words = given.isEmpty() ? new String[0] : given.split(", ");
        Object[] arguments = new Object[words.length];
        for (int i = 0; i < words.length; i++) {
            arguments[i] = Integer.valueOf(words[i]);
        }
        Class<?>[] types = new Class<?>[words.length];
        java.util.Arrays.fill(types, int.class);
        Method method = ScheduleHouse.class.getMethod(name, types);
        String got;
        try {
            got = String.valueOf(method.invoke(house, arguments));
        } catch (InvocationTargetException e) {
            got = e.getCause().getClass().getSimpleName();
        }
        Checks.due(name + "(" + given + ") answers " + want + "; it answered " + got, got.equals(want), true);
    }
}
