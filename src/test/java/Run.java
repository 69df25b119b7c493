import java.lang.reflect.Method;
import java.util.ArrayList;
import java.util.Arrays;
import java.util.List;
import java.util.Set;
import java.util.regex.Matcher;
import java.util.regex.Pattern;

/**
 * A run of calls on a new object, told as a text: "year(3)=3 back(0)=NOT 'house' fault()=NONE" (letters in ' ' are
 * written). At its end it is compared with a second object that got neither the refused calls nor those that only ask.
 */
final class Run {
    private static final List<String> REFUSALS =
        List.of("UNKNOWN", "OUTSIDE", "NOT", "FULL", "NULL", "INDEX", "CAST", "ROOM", "SIZE");
    private static final Set<String> ASKING = Set.of("fault", "house", "thing", "as", "behind", "leaves", "rings", "pieces",
        "hangs", "way", "knit", "whole", "kinds", "ask", "find", "count");
    private static final Pattern STEP = Pattern.compile("'([^']*)'|([a-z]+)\\(([^)]*)\\)=(-?\\w+)|(\\S+)");
    private static final Pattern COMMA = Pattern.compile(", *");

    private final Due due;
    private final HookTies x = new HookTies();
    private final HookTies twin = new HookTies();

    private Run(Due due) {
        this.due = due;
    }

    /** Behind a text (none, if it is empty) these calls answer so. */
    static void of(Due due, String text, String... calls) {
        Run run = new Run(due);
        if (!text.isEmpty()) {
            run.letters(text);
            run.step("commons", new int[0], String.valueOf(text.split(";").length));
        }
        for (String some : calls) {
            run.go(some);
        }
        due.same("refused and asking calls change nothing, behind " + Arrays.toString(calls), deepLook(run.x), deepLook(run.twin));
    }

    /** The FAULT of a text on a new object is at this place (NONE); with one the text cannot be done, and stays. */
    static void fault(Due due, String text, int place) {
        String length = "count(10)=" + text.length();
        String done = place == Due.NONE ? "commons()=" + text.split(";").length + " count(10)=0" : "commons()=NOT " + length;
        of(due, "", "'" + text + "'", length + " fault()=" + place, done);
    }

    private void go(String calls) {
        Matcher m = STEP.matcher(calls);
        while (m.find()) {
            if (m.group(5) != null) {
                throw new IllegalStateException("no call: " + m.group(5) + " in " + calls);
            }
            if (m.group(1) != null) {
                letters(m.group(1));
            } else {
                step(m.group(2), values(m.group(3)), m.group(4));
            }
        }
    }

    private void letters(String text) {
        Due.tell(x, text);
        Due.tell(twin, text);
    }

    private void step(String name, int[] values, String want) {
        String call = name + Arrays.toString(values);
        if (REFUSALS.contains(want)) {
            due.refused(x, call, () -> answer(x, name, values), value(want));
            return;
        }
        due.is(call, answer(x, name, values), value(want));
        if (!ASKING.contains(name)) {
            answer(twin, name, values);
        }
    }

    private static int answer(HookTies one, String name, int[] values) {
        Class<?>[] ints = new Class<?>[values.length];
        Arrays.fill(ints, int.class);
        try {
            Method m = HookTies.class.getDeclaredMethod(name, ints);
            return (Integer) m.invoke(one, Arrays.stream(values).boxed().toArray());
        } catch (ReflectiveOperationException e) {
            throw new IllegalStateException(name + Arrays.toString(values), e);
        }
    }

    private static int[] values(String told) {
        return told.isBlank() ? new int[0] : COMMA.splitAsStream(told).mapToInt(Run::value).toArray();
    }

    private static int value(String told) {
        switch (told) {
            case "MIN":
                return Integer.MIN_VALUE;
            case "MAX":
                return Integer.MAX_VALUE;
            case "NONE":
                return Due.NONE;
            default:
                int place = REFUSALS.indexOf(told);
                int[] refusals = {Due.UNKNOWN, Due.OUTSIDE, Due.NOT, Due.FULL, Due.NULL, Due.INDEX, Due.CAST, Due.ROOM, Due.SIZE};
                return place >= 0 ? refusals[place] : Integer.parseInt(told);
        }
    }

    /** Also what only further deeds bring to light: room left on hooks, what can be undone, what was kept. It changes the object. */
    private static String deepLook(HookTies one) {
        List<String> all = new ArrayList<>();
        all.add(Look.at(one));
        for (int r = 0; r < 3; r++) {
            int hung = 0;
            while (hung <= 12 && one.hang(r, 0, 0, 0) > 0) {
                hung++;
            }
            all.add("room " + hung);
        }
        for (int i = 0; i <= 8; i++) {
            all.add(one.undo() + ": " + Look.at(one));
        }
        all.add(one.back(1) + ": " + Look.at(one));
        all.add(one.back(0) + ": " + Look.at(one));
        return all.toString();
    }
}
