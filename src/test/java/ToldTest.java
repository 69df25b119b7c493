/** Promises 6 to 9 and 35: house, thing, as, want, count. */
public final class ToldTest {
    private static final Due due = new Due();
    // Things: 0 PAN of 0 AT 1; 1 SPOON of 1 AT 1; 2 PIPE of 2 AT 0; 3 SHOE of 0 AT 1; 4 CAP of 2 AT 2; 5 SHOE of 0 AT 0; 6 CAP of 0 AT 1.
    private static final String TEXT =
        "house;house;house;pan 0 1 9;spoon 1 1 8;pipe 2 0 7;shoe 0 1 6;cap 2 2 5;shoe 0 0 4;cap 0 1 99;want 2 6";

    public static void main(String[] args) {
        house();
        thing();
        as();
        want();
        count();
        due.end();
    }

    private static void house() {
        due.about("promise 6");
        HookTies x = Due.commons(TEXT);
        due.is("house(0, 0)", x.house(0, 0), 0);
        due.is("house(0, 1)", x.house(0, 1), 1 << 2 | 1 << 5);
        due.is("house(1, 1)", x.house(1, 1), 1 | 1 << 1 | 1 << 3 | 1 << 6);
        due.is("house(2, 1)", x.house(2, 1), 1 << 4);
        due.is("house(0, 2)", x.house(0, 2), 1 | 1 << 3 | 1 << 5 | 1 << 6);
        due.is("house(2, 2)", x.house(2, 2), 1 << 2 | 1 << 4);
        due.is("house(0, 3)", x.house(0, 3), 1);
        due.is("house(1, 3)", x.house(1, 3), 1);
        due.is("house(2, 3)", x.house(2, 3), 0);
        due.is("house(2, 4)", x.house(2, 4), 6);
        due.is("house(0, 4)", x.house(0, 4), Due.NONE);
        x.year(1);
        due.is("house(2, 0)", x.house(2, 0), 1);
        due.is("house(2, 1)", x.house(2, 1), 0);
        due.is("house(2, 2)", x.house(2, 2), 1 << 2 | 1 << 4);
        due.is("house(2, 3)", x.house(2, 3), 0);
        due.is("house(2, 4)", x.house(2, 4), 6);
        due.refused(x, "house(-1, 0)", () -> x.house(-1, 0), Due.UNKNOWN);
        due.refused(x, "house(3, 9)", () -> x.house(3, 9), Due.UNKNOWN);
        due.refused(x, "house(0, -1)", () -> x.house(0, -1), Due.OUTSIDE);
        due.refused(x, "house(0, 5)", () -> x.house(0, 5), Due.OUTSIDE);
    }

    private static void thing() {
        due.about("promise 7");
        HookTies x = Due.commons(TEXT);
        int[] kinds = {0, 1, 2, 3, 4, 3, 4};
        int[] owners = {0, 1, 2, 0, 2, 0, 0};
        int[] worths = {9, 8, 7, 6, 5, 4, 99};
        int[] places = {1, 1, 0, 1, 2, 0, 1};
        int[] wears = {1, 0, 2, 3, 0, 0, 2};
        for (int t = 0; t < kinds.length; t++) {
            due.is("thing(" + t + ", 0)", x.thing(t, 0), kinds[t]);
            due.is("thing(" + t + ", 1)", x.thing(t, 1), owners[t]);
            due.is("thing(" + t + ", 2)", x.thing(t, 2), worths[t]);
            due.is("thing(" + t + ", 3)", x.thing(t, 3), places[t]);
            due.is("thing(" + t + ", 4)", x.thing(t, 4), wears[t]);
        }
        x.year(3);
        due.is("thing(4, 2), nowhere, of WORTH yet", x.thing(4, 2), 5);
        due.is("thing(4, 3)", x.thing(4, 3), Due.NONE);
        due.is("thing(3, 2), worn", x.thing(3, 2), 0);
        due.is("thing(3, 3)", x.thing(3, 3), Due.NONE);
        due.is("thing(3, 4)", x.thing(3, 4), 0);
        due.is("thing(2, 2)", x.thing(2, 2), 1);
        due.is("thing(2, 4), more than it is of", x.thing(2, 4), 2);
        due.refused(x, "thing(-1, 0)", () -> x.thing(-1, 0), Due.UNKNOWN);
        due.refused(x, "thing(7, 5)", () -> x.thing(7, 5), Due.UNKNOWN);
        due.refused(x, "thing(0, -1)", () -> x.thing(0, -1), Due.OUTSIDE);
        due.refused(x, "thing(0, 5)", () -> x.thing(0, 5), Due.OUTSIDE);
    }

    private static void as() {
        due.about("promise 8");
        HookTies x = Due.commons("house;pan 0 0 9;spoon 0 0 9;pipe 0 0 9;shoe 0 0 9;cap 0 0 9");
        int not = Due.NOT;
        int[][] answers = {
            {1, 1, not, not, not, not},
            {0, 0, 0, not, not, not},
            {2, 2, not, 2, not, not},
            {3, not, not, not, 3, not},
            {2, not, not, not, 2, 2}};
        for (int years = 0; years < 2; years++) {
            for (int t = 0; t < 5; t++) {
                for (int k = 0; k < 6; k++) {
                    due.is("as(" + t + ", " + k + ")", x.as(t, k), answers[t][k]);
                }
            }
            x.year(12);
        }
        due.is("count(6)", x.count(6), 31);
        due.refused(x, "as(5, 0)", () -> x.as(5, 0), Due.UNKNOWN);
        due.refused(x, "as(-1, 6)", () -> x.as(-1, 6), Due.UNKNOWN);
        due.refused(x, "as(0, -1)", () -> x.as(0, -1), Due.OUTSIDE);
        due.refused(x, "as(0, 6)", () -> x.as(0, 6), Due.OUTSIDE);
    }

    private static void want() {
        due.about("promise 9");
        HookTies x = Due.commons(TEXT);
        due.is("want(2, 0)", x.want(2, 0), 6);
        due.is("want(2, NONE)", x.want(2, Due.NONE), 0);
        due.is("want(2, NONE)", x.want(2, Due.NONE), Due.NONE);
        due.is("want(2, 4), its own, AT it", x.want(2, 4), Due.NONE);
        due.is("house(2, 4)", x.house(2, 4), 4);
        due.is("count(9)", x.count(9), 0);
        x.year(1);
        due.is("want(2, 1), it is OUT", x.want(2, 1), 4);
        x.undo();
        due.is("house(2, 4), not undone", x.house(2, 4), 1);
        due.refused(x, "want(3, 0)", () -> x.want(3, 0), Due.UNKNOWN);
        due.refused(x, "want(-1, NONE)", () -> x.want(-1, Due.NONE), Due.UNKNOWN);
        due.refused(x, "want(0, 7)", () -> x.want(0, 7), Due.UNKNOWN);
        due.refused(x, "want(0, -2)", () -> x.want(0, -2), Due.UNKNOWN);
    }

    private static void count() {
        due.about("promise 35");
        HookTies x = Due.commons(TEXT);
        x.year(1);
        x.hooks(0, 2);
        x.hooks(2, 3);
        x.hang(0, 0, 0, 1);
        x.hang(2, 0, 2, 1);
        x.hang(2, 0, 1, 1);
        x.seen(1, 1, 1);
        x.seen(1, 1, 1);
        x.patch(0, 1);
        Due.tell(x, "pan");
        due.is("count(0)", x.count(0), 3);
        due.is("count(1)", x.count(1), 7);
        due.is("count(2)", x.count(2), 1);
        due.is("count(3)", x.count(3), 4);
        due.is("count(4)", x.count(4), 3);
        due.is("count(5)", x.count(5), 9 + 8 + 5 + 3 + 5 + 4 + 97);
        due.is("count(6)", x.count(6), 1 << 4);
        due.is("count(7)", x.count(7), 2);
        due.is("count(8)", x.count(8), 3);
        due.is("count(9)", x.count(9), 2);
        due.is("count(10)", x.count(10), 3);
        due.refused(x, "count(-1)", () -> x.count(-1), Due.OUTSIDE);
        due.refused(x, "count(11)", () -> x.count(11), Due.OUTSIDE);
    }
}
