import java.util.function.IntSupplier;

/** Counts the answers that are not as due; what every test of the project shares. */
final class Due {
    static final int NONE = HookTies.NONE, UNKNOWN = HookTies.UNKNOWN, OUTSIDE = HookTies.OUTSIDE, NOT = HookTies.NOT,
        FULL = HookTies.FULL, NULL = HookTies.NULL, INDEX = HookTies.INDEX, CAST = HookTies.CAST, ROOM = HookTies.ROOM,
        SIZE = HookTies.SIZE;
    private int wrong = 0;
    private int asked = 0;
    private String about = "";

    void about(String promise) {
        about = promise;
    }

    void is(String call, int got, int want) {
        asked++;
        if (got != want) {
            wrong++;
            System.out.println(about + ": " + call + " answered " + got + ", due is " + want);
        }
    }

    void holds(String what, boolean so) {
        is(what, so ? 1 : 0, 1);
    }

    /** A refused call answers as told, and all that can be asked stays as it was. */
    void refused(HookTies x, String call, IntSupplier asking, int want) {
        String before = Look.at(x);
        is(call, asking.getAsInt(), want);
        same("behind " + call, Look.at(x), before);
    }

    void same(String what, String got, String want) {
        asked++;
        if (!got.equals(want)) {
            wrong++;
            int place = firstOther(got, want);
            System.out.println(about + ": " + what + ": at " + place + " '" + near(got, place) + "' instead of '" + near(want, place) + "'");
        }
    }

    private static int firstOther(String one, String other) {
        int place = 0;
        while (place < one.length() && place < other.length() && one.charAt(place) == other.charAt(place)) {
            place++;
        }
        return place;
    }

    private static String near(String text, int place) {
        return text.substring(Math.max(0, place - 20), Math.min(text.length(), place + 20));
    }

    void end() {
        System.out.println(wrong == 0 ? asked + " answers are as due" : wrong + " of " + asked + " are not as due");
        if (wrong != 0) {
            System.exit(1);
        }
    }

    static void tell(HookTies x, String text) {
        for (int i = 0; i < text.length(); i++) {
            x.write(text.charAt(i));
        }
    }

    /** A new object behind a text. */
    static HookTies commons(String text) {
        HookTies x = new HookTies();
        tell(x, text);
        int clauses = x.commons();
        if (clauses != text.split(";").length) {
            throw new IllegalStateException("not a text: " + text + " (" + clauses + ")");
        }
        return x;
    }
}
