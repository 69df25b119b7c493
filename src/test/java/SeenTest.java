/** Promises 25 to 28: seen, forget, kinds, ask. */
public final class SeenTest {
    private static final Due due = new Due();

    public static void main(String[] args) {
        seen();
        forget();
        kinds();
        ask();
        due.end();
    }

    private static void seen() {
        due.about("promise 25");
        HookTies x = new HookTies();
        due.refused(x, "seen(0, 0, 0)", () -> x.seen(0, 0, 0), Due.OUTSIDE);
        due.refused(x, "seen(21, 0, 0)", () -> x.seen(21, 0, 0), Due.OUTSIDE);
        due.refused(x, "seen(1, -1, 0)", () -> x.seen(1, -1, 0), Due.OUTSIDE);
        due.refused(x, "seen(1, 2, 0)", () -> x.seen(1, 2, 0), Due.OUTSIDE);
        due.refused(x, "seen(1, 0, -1)", () -> x.seen(1, 0, -1), Due.OUTSIDE);
        due.refused(x, "seen(1, 0, 100)", () -> x.seen(1, 0, 100), Due.OUTSIDE);
        for (int n = 1; n <= 6; n++) {
            due.is("seen(20, 0, 60)", x.seen(20, 0, 60), n);
        }
        due.refused(x, "seen(1, 0, 99)", () -> x.seen(1, 0, 99), Due.FULL);
        due.refused(x, "seen(1, 0, 100)", () -> x.seen(1, 0, 100), Due.OUTSIDE);
        due.is("count(7)", x.count(7), 6);
    }

    private static void forget() {
        due.about("promise 26");
        HookTies x = new HookTies();
        due.is("forget()", x.forget(), 0);
        x.seen(1, 0, 99);
        x.seen(1, 0, 99);
        due.is("kinds()", x.kinds(), 0);
        due.is("forget()", x.forget(), 2);
        due.is("kinds()", x.kinds(), 31);
        due.is("count(7)", x.count(7), 0);
    }

    private static void kindsOf(int n, int home, int d, int kinds) {
        HookTies x = new HookTies();
        x.seen(n, home, d);
        due.is("kinds() by seen(" + n + ", " + home + ", " + d + ")", x.kinds(), kinds);
    }

    private static void kinds() {
        due.about("promise 27");
        for (int n = 1; n <= 20; n++) {
            kindsOf(n, 0, 0, 2);
            kindsOf(n, 0, n, 1);
            kindsOf(n, 0, 2 * n, 4 | 16);
            kindsOf(n, 0, 3 * n, 8);
            kindsOf(n, 1, 0, 2 | 8 | 16);
            kindsOf(n, 1, n, 1);
            kindsOf(n, 1, 2 * n, 4);
            kindsOf(n, 1, 3 * n, 0);
            kindsOf(n, 1, 99, 0);
        }
        HookTies x = new HookTies();
        x.seen(3, 0, 6);
        due.is("kinds()", x.kinds(), 20);
        x.seen(5, 1, 0);
        due.is("kinds()", x.kinds(), 16);
        x.seen(1, 0, 0);
        due.is("kinds()", x.kinds(), 0);
    }

    private static void ask() {
        due.about("promise 28");
        HookTies x = new HookTies();
        due.is("ask()", x.ask(), 10);
        x.seen(3, 0, 6);
        due.is("ask(), pipe or cap", x.ask(), 11);
        x.seen(1, 1, 2);
        due.is("ask(), pipe", x.ask(), Due.NONE);
        x.seen(1, 1, 1);
        due.is("ask(), nothing", x.ask(), Due.NONE);
        x.forget();
        x.seen(3, 1, 0);
        due.is("ask(), spoon, shoe or cap", x.ask(), 10);
    }
}
