/** Promises 29 to 34: hooks, hang, unhang, find, join, drop. */
public final class HooksTest {
    private static final Due due = new Due();
    private static final String TEXT = "house;house;pan 0 1 9;cap 1 0 9;cap 1 0 1";

    public static void main(String[] args) {
        hooks();
        hang();
        hangOrder();
        unhang();
        find();
        join();
        drop();
        stays();
        due.end();
    }

    private static void hooks() {
        due.about("promise 29");
        HookTies x = Due.commons(TEXT);
        for (int r = 0; r < 3; r++) {
            due.is("hooks(r, 12)", x.hooks(r, 12), 12);
            due.is("hooks(r, 0)", x.hooks(r, 0), 0);
            due.is("hang(r, 0, 0, 0)", x.hang(r, 0, 0, 0), Due.ROOM);
        }
        x.hooks(1, 1);
        x.hang(1, 0, 0, 5);
        due.refused(x, "hooks(-1, 99)", () -> x.hooks(-1, 99), Due.UNKNOWN);
        due.refused(x, "hooks(3, -1)", () -> x.hooks(3, -1), Due.UNKNOWN);
        due.refused(x, "hooks(1, 13)", () -> x.hooks(1, 13), Due.OUTSIDE);
        due.refused(x, "hooks(1, -1)", () -> x.hooks(1, -1), Due.SIZE);
        due.refused(x, "hooks(1, least)", () -> x.hooks(1, Integer.MIN_VALUE), Due.SIZE);
        due.is("hooks(1, 2)", x.hooks(1, 2), 2);
        due.is("find(1, 0, 5), on new ones", x.find(1, 0, 5), Due.NONE);
        due.is("count(8)", x.count(8), 0);
    }

    private static void hang() {
        due.about("promise 30");
        HookTies x = Due.commons(TEXT);
        x.hooks(0, 5);
        due.is("hang(0, 0, 0, 9999)", x.hang(0, 0, 0, 9999), 1);
        due.is("hang(0, 0, 1, 2)", x.hang(0, 0, 1, 2), 2);
        due.is("hang(0, 2, 2, 0)", x.hang(0, 2, 2, 0), 3);
        due.is("hang(0, 1, 0, -9999)", x.hang(0, 1, 0, -9999), 4);
        due.is("find(0, 1, 2)", x.find(0, 1, 2), 0);
        due.is("find(0, 0, -9999)", x.find(0, 0, -9999), 1);
        due.is("find(0, 0, 9999)", x.find(0, 0, 9999), 2);
        due.is("find(0, 2, 0)", x.find(0, 2, 0), 3);
        due.refused(x, "hang(0, 5, 0, 1)", () -> x.hang(0, 5, 0, 1), Due.INDEX);
        due.refused(x, "hang(0, -1, 0, 1)", () -> x.hang(0, -1, 0, 1), Due.INDEX);
        due.is("hang(0, 4, 2, 25)", x.hang(0, 4, 2, 25), 5);
        due.refused(x, "hang(0, 5, 0, 1)", () -> x.hang(0, 5, 0, 1), Due.ROOM);
        due.refused(x, "hang(0, 6, 0, 1)", () -> x.hang(0, 6, 0, 1), Due.INDEX);
        x.hooks(1, 12);
        for (int n = 1; n <= 12; n++) {
            due.is("hang(1, 0, 0, n)", x.hang(1, 0, 0, n), n);
        }
        due.refused(x, "hang(1, 0, 0, 13)", () -> x.hang(1, 0, 0, 13), Due.ROOM);
        due.is("find(1, 0, 1)", x.find(1, 0, 1), 11);
    }

    private static void hangOrder() {
        due.about("promise 30, what is refused first");
        HookTies x = Due.commons(TEXT);
        x.hooks(0, 0);
        due.refused(x, "hang(3, 9, 9, 99999)", () -> x.hang(3, 9, 9, 99999), Due.UNKNOWN);
        due.refused(x, "hang(-1, 0, 0, 0)", () -> x.hang(-1, 0, 0, 0), Due.UNKNOWN);
        due.refused(x, "hang(1, 9, 1, 3)", () -> x.hang(1, 9, 1, 3), Due.UNKNOWN);
        due.refused(x, "hang(0, 0, 1, -1)", () -> x.hang(0, 0, 1, -1), Due.UNKNOWN);
        due.refused(x, "hang(1, 9, -1, 0)", () -> x.hang(1, 9, -1, 0), Due.OUTSIDE);
        due.refused(x, "hang(1, 9, 3, 0)", () -> x.hang(1, 9, 3, 0), Due.OUTSIDE);
        due.refused(x, "hang(1, 9, 0, 10000)", () -> x.hang(1, 9, 0, 10000), Due.OUTSIDE);
        due.refused(x, "hang(1, 9, 0, -10000)", () -> x.hang(1, 9, 0, -10000), Due.OUTSIDE);
        due.refused(x, "hang(1, 9, 2, 26)", () -> x.hang(1, 9, 2, 26), Due.OUTSIDE);
        due.refused(x, "hang(1, 9, 2, -1)", () -> x.hang(1, 9, 2, -1), Due.OUTSIDE);
        due.refused(x, "hang(1, 9, 0, 0)", () -> x.hang(1, 9, 0, 0), Due.NULL);
        due.refused(x, "hang(0, 1, 0, 0)", () -> x.hang(0, 1, 0, 0), Due.INDEX);
        due.refused(x, "hang(0, 0, 0, 0)", () -> x.hang(0, 0, 0, 0), Due.ROOM);
    }

    private static void unhang() {
        due.about("promise 31");
        HookTies x = Due.commons(TEXT);
        x.hooks(0, 5);
        x.hang(0, 0, 0, -9999);
        x.hang(0, 1, 1, 2);
        x.hang(0, 2, 2, 2);
        x.hang(0, 3, 0, 2);
        due.refused(x, "unhang(3, 0, 9)", () -> x.unhang(3, 0, 9), Due.UNKNOWN);
        due.refused(x, "unhang(-1, 0, 0)", () -> x.unhang(-1, 0, 0), Due.UNKNOWN);
        due.refused(x, "unhang(1, 0, 3)", () -> x.unhang(1, 0, 3), Due.OUTSIDE);
        due.refused(x, "unhang(1, 0, -1)", () -> x.unhang(1, 0, -1), Due.OUTSIDE);
        due.refused(x, "unhang(1, 9, 0)", () -> x.unhang(1, 9, 0), Due.NULL);
        due.refused(x, "unhang(0, 4, 0)", () -> x.unhang(0, 4, 0), Due.INDEX);
        due.refused(x, "unhang(0, -1, 0)", () -> x.unhang(0, -1, 0), Due.INDEX);
        for (int i = 0; i < 4; i++) {
            int place = i;
            int hangs = i == 0 || i == 3 ? 0 : i;
            for (int what = 0; what < 3; what++) {
                int taken = what;
                if (taken != hangs) {
                    due.refused(x, "unhang(0, " + i + ", " + what + ")", () -> x.unhang(0, place, taken), Due.CAST);
                }
            }
        }
        due.is("unhang(0, 1, 1)", x.unhang(0, 1, 1), 2);
        due.is("find(0, 2, 2)", x.find(0, 2, 2), 1);
        due.is("unhang(0, 1, 2)", x.unhang(0, 1, 2), 2);
        due.is("unhang(0, 1, 0)", x.unhang(0, 1, 0), 50002);
        due.is("unhang(0, 0, 0)", x.unhang(0, 0, 0), 40001);
        due.refused(x, "unhang(0, 0, 0)", () -> x.unhang(0, 0, 0), Due.INDEX);
        due.is("count(8)", x.count(8), 0);
    }

    private static void find() {
        due.about("promise 32");
        HookTies x = Due.commons(TEXT);
        x.hooks(0, 6);
        x.hang(0, 0, 0, 2);
        x.hang(0, 1, 2, 2);
        x.hang(0, 2, 2, 2);
        due.is("find(0, 2, 2)", x.find(0, 2, 2), 1);
        due.is("find(0, 0, 2)", x.find(0, 0, 2), 0);
        due.is("find(0, 1, 2)", x.find(0, 1, 2), Due.NONE);
        due.is("find(0, 0, -9999)", x.find(0, 0, -9999), Due.NONE);
        due.refused(x, "find(3, 9, 0)", () -> x.find(3, 9, 0), Due.UNKNOWN);
        due.refused(x, "find(-1, 0, 0)", () -> x.find(-1, 0, 0), Due.UNKNOWN);
        due.refused(x, "find(1, 1, 3)", () -> x.find(1, 1, 3), Due.UNKNOWN);
        due.refused(x, "find(1, 1, -1)", () -> x.find(1, 1, -1), Due.UNKNOWN);
        due.refused(x, "find(1, 3, 0)", () -> x.find(1, 3, 0), Due.OUTSIDE);
        due.refused(x, "find(1, -1, 0)", () -> x.find(1, -1, 0), Due.OUTSIDE);
        due.refused(x, "find(1, 0, 10000)", () -> x.find(1, 0, 10000), Due.OUTSIDE);
        due.refused(x, "find(1, 0, -10000)", () -> x.find(1, 0, -10000), Due.OUTSIDE);
        due.refused(x, "find(1, 2, 26)", () -> x.find(1, 2, 26), Due.OUTSIDE);
        due.refused(x, "find(1, 2, -1)", () -> x.find(1, 2, -1), Due.OUTSIDE);
        due.refused(x, "find(1, 0, 0)", () -> x.find(1, 0, 0), Due.NULL);
    }

    private static void join() {
        due.about("promise 33");
        HookTies x = Due.commons(TEXT);
        x.hooks(0, 6);
        x.hooks(1, 2);
        x.hang(0, 0, 0, 1);
        x.hang(0, 1, 1, 1);
        x.hang(1, 0, 2, 1);
        due.is("join(0, 1)", x.join(0, 1), 3);
        due.is("find(0, 2, 1)", x.find(0, 2, 1), 2);
        due.is("find(1, 2, 1), there too", x.find(1, 2, 1), 0);
        due.refused(x, "join(1, 0)", () -> x.join(1, 0), Due.ROOM);
        due.is("join(0, 0)", x.join(0, 0), 6);
        int[] whats = {0, 1, 2, 0, 1, 2};
        for (int i = 0; i < 6; i++) {
            due.is("unhang(0, 0, ..)", x.unhang(0, 0, whats[i]), whats[i] == 0 ? 50001 : 1);
        }
        due.is("join(0, 1)", x.join(0, 1), 1);
        due.is("join(1, 0)", x.join(1, 0), 2);
        due.refused(x, "join(1, 1)", () -> x.join(1, 1), Due.ROOM);
        due.refused(x, "join(0, 2)", () -> x.join(0, 2), Due.NULL);
        due.refused(x, "join(2, 0)", () -> x.join(2, 0), Due.NULL);
        due.refused(x, "join(2, 2)", () -> x.join(2, 2), Due.NULL);
        due.refused(x, "join(3, 2)", () -> x.join(3, 2), Due.UNKNOWN);
        due.refused(x, "join(2, 3)", () -> x.join(2, 3), Due.UNKNOWN);
        due.refused(x, "join(-1, 0)", () -> x.join(-1, 0), Due.UNKNOWN);
        due.refused(x, "join(0, -1)", () -> x.join(0, -1), Due.UNKNOWN);
        x.hooks(2, 0);
        due.is("join(2, 2)", x.join(2, 2), 0);
        due.is("join(0, 2)", x.join(0, 2), 1);
        due.refused(x, "join(2, 0)", () -> x.join(2, 0), Due.ROOM);
    }

    private static void drop() {
        due.about("promise 34");
        HookTies x = Due.commons(TEXT);
        x.hooks(2, 3);
        x.hang(2, 0, 0, 1);
        x.hang(2, 0, 0, 2);
        due.is("drop(2)", x.drop(2), 2);
        due.is("count(8)", x.count(8), 0);
        due.refused(x, "drop(2)", () -> x.drop(2), Due.NULL);
        due.refused(x, "hang(2, 0, 0, 0)", () -> x.hang(2, 0, 0, 0), Due.NULL);
        due.refused(x, "drop(3)", () -> x.drop(3), Due.UNKNOWN);
        due.refused(x, "drop(-1)", () -> x.drop(-1), Due.UNKNOWN);
        due.is("hooks(2, 1)", x.hooks(2, 1), 1);
        due.is("drop(2)", x.drop(2), 0);
    }

    private static void stays() {
        due.about("promises 29 to 34, with years");
        HookTies x = Due.commons(TEXT);
        x.hooks(0, 3);
        x.hang(0, 0, 1, 2);
        x.year(1);
        due.is("thing(2, 3)", x.thing(2, 3), Due.NONE);
        due.is("find(0, 1, 2), nowhere, but on its hook", x.find(0, 1, 2), 0);
        due.is("hang(0, 0, 1, 2), nowhere", x.hang(0, 0, 1, 2), 2);
        x.undo();
        due.is("count(8), not undone", x.count(8), 2);
        due.is("unhang(0, 1, 1)", x.unhang(0, 1, 1), 2);
    }
}
