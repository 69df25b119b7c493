/** Promises 10 to 16: year, send, patch, trade, undo, keep, back. */
public final class DoneTest {
    private static final Due due = new Due();

    public static void main(String[] args) {
        yearWears();
        yearLeaves();
        yearBounds();
        send();
        patch();
        trade();
        tradeEdges();
        undo();
        undoEight();
        keepAndBack();
        due.end();
    }

    private static void yearWears() {
        due.about("promise 10, wear");
        // Spoons of one another hold both houses in for ever.
        HookTies x = Due.commons("house;house;spoon 0 1 1;spoon 1 0 1;pan 0 1 3;pipe 0 0 5;shoe 0 1 4;shoe 0 0 4;cap 0 1 4;cap 0 0 4");
        due.is("year(1)", x.year(1), 1);
        int[][] after = {{1, 1, 2, 3, 1, 4, 2, 4}, {1, 1, 1, 1, 0, 4, 0, 4}, {1, 1, 0, 0, 0, 4, 0, 4}};
        for (int y = 0; y < after.length; y++) {
            for (int t = 0; t < after[y].length; t++) {
                due.is("thing(" + t + ", 2) in year " + (y + 1), x.thing(t, 2), after[y][t]);
            }
            x.year(1);
        }
        due.is("count(6)", x.count(6), 1 << 2 | 1 << 3 | 1 << 4 | 1 << 6);
        due.is("count(3)", x.count(3), 0);
    }

    private static void yearLeaves() {
        due.about("promise 10, leaving");
        // 1 keeps a pan of 0; 2 keeps one of 1; 0 keeps nothing: it goes in the first year, with the cap of 2 worn there.
        HookTies x = Due.commons("house;house;house;pan 0 1 2;pan 1 2 9;cap 2 0 2;shoe 0 0 7");
        due.is("year(1)", x.year(1), 1);
        due.is("count(3)", x.count(3), 1);
        due.is("thing(2, 2), worn", x.thing(2, 2), 0);
        due.is("thing(3, 3), at one that left", x.thing(3, 3), Due.NONE);
        due.is("thing(3, 2)", x.thing(3, 2), 7);
        due.is("thing(0, 3), of one that left", x.thing(0, 3), 1);
        due.is("year(1)", x.year(1), 2);
        due.is("count(3)", x.count(3), 3);
        due.is("thing(1, 3)", x.thing(1, 3), 2);
        due.is("year(6)", x.year(6), 8);
        due.is("thing(1, 2)", x.thing(1, 2), 1);
        due.is("count(3)", x.count(3), 3);
        due.is("year(1)", x.year(1), 9);
        due.is("count(3)", x.count(3), 7);
        // All that are not tied leave at once: 0 keeps nothing, 1 keeps but what wears away now.
        HookTies y = Due.commons("house;house;pan 0 1 1;shoe 0 0 1;shoe 1 1 1");
        y.year(1);
        due.is("count(3)", y.count(3), 3);
        due.is("count(5)", y.count(5), 2);
        due.is("count(6)", y.count(6), 7);
    }

    private static void yearBounds() {
        due.about("promise 10, bounds");
        HookTies x = Due.commons("house;house;spoon 0 1 9;spoon 1 0 9");
        due.refused(x, "year(0)", () -> x.year(0), Due.OUTSIDE);
        due.refused(x, "year(-1)", () -> x.year(-1), Due.OUTSIDE);
        due.refused(x, "year(13)", () -> x.year(13), Due.OUTSIDE);
        due.refused(x, "year(most)", () -> x.year(Integer.MAX_VALUE), Due.OUTSIDE);
        for (int y = 12; y <= 996; y += 12) {
            due.is("year(12)", x.year(12), y);
        }
        due.refused(x, "year(4)", () -> x.year(4), Due.FULL);
        due.refused(x, "year(13)", () -> x.year(13), Due.OUTSIDE);
        due.is("year(3)", x.year(3), 999);
        due.refused(x, "year(1)", () -> x.year(1), Due.FULL);
        due.is("leaves(0), beyond 999", x.leaves(0), Due.NONE);
        due.is("pieces(60), beyond 999", x.pieces(60), 1);
    }

    private static void send() {
        due.about("promise 11");
        HookTies x = Due.commons("house;house;house;house;pan 0 1 9;pan 1 1 9;pan 2 1 9;spoon 1 0 9;spoon 0 3 1");
        x.year(1);
        due.is("count(3)", x.count(3), 4);
        due.is("send(2, 0)", x.send(2, 0), 1);
        due.is("thing(2, 3)", x.thing(2, 3), 0);
        due.refused(x, "send(0, 0), unties 1", () -> x.send(0, 0), Due.NOT);
        due.is("send(1, 0), its own", x.send(1, 0), 1);
        due.is("send(1, 1), back", x.send(1, 1), 0);
        due.refused(x, "send(1, 1), it is there", () -> x.send(1, 1), Due.NOT);
        due.refused(x, "send(1, 2), which is OUT", () -> x.send(1, 2), Due.NOT);
        due.is("send(2, 3)", x.send(2, 3), 0);
        due.refused(x, "send(3, 1), unties 0", () -> x.send(3, 1), Due.NOT);
        due.is("send(4, 0), home, 3 keeps another", x.send(4, 0), 3);
        due.is("send(4, 1), from a house that stays tied", x.send(4, 1), 0);
        x.year(12);
        due.refused(x, "send(0, 0), nowhere", () -> x.send(0, 0), Due.NOT);
        due.refused(x, "send(5, 0)", () -> x.send(5, 0), Due.UNKNOWN);
        due.refused(x, "send(-1, 0)", () -> x.send(-1, 0), Due.UNKNOWN);
        due.refused(x, "send(0, 4)", () -> x.send(0, 4), Due.UNKNOWN);
        due.refused(x, "send(0, -1)", () -> x.send(0, -1), Due.UNKNOWN);
        HookTies y = Due.commons("house;house;shoe 0 0 5");
        due.is("send(0, 1), from one not tied", y.send(0, 1), 0);
        due.refused(y, "send(0, 0)", () -> y.send(0, 0), Due.NOT);
    }

    private static void patch() {
        due.about("promise 12");
        HookTies x = Due.commons("house;house;spoon 1 0 1;spoon 0 1 60;pan 0 1 1");
        due.is("patch(0, 1)", x.patch(0, 1), 2);
        due.is("patch(0, 99)", x.patch(0, 99), 99);
        due.refused(x, "patch(0, 1)", () -> x.patch(0, 1), Due.NOT);
        due.refused(x, "patch(0, 0)", () -> x.patch(0, 0), Due.OUTSIDE);
        due.refused(x, "patch(1, -1)", () -> x.patch(1, -1), Due.OUTSIDE);
        due.refused(x, "patch(1, 100)", () -> x.patch(1, 100), Due.OUTSIDE);
        due.is("patch(1, 39)", x.patch(1, 39), 99);
        x.year(1);
        due.refused(x, "patch(2, 5), nowhere", () -> x.patch(2, 5), Due.NOT);
        due.refused(x, "patch(3, 0)", () -> x.patch(3, 0), Due.UNKNOWN);
        due.refused(x, "patch(-1, 1)", () -> x.patch(-1, 1), Due.UNKNOWN);
    }

    private static void trade() {
        due.about("promises 13, 19");
        // 0 -> 1 -> 2 -> 0 is a ring, 3 -> 0 leads into it, 4 <-> 5 is another one.
        HookTies x = Due.commons("house;house;house;house;house;house;pan 0 1 9;pan 1 2 9;pan 2 0 9;pan 3 0 9;pan 4 5 9;pan 5 4 9"
            + ";want 0 0;want 1 1;want 2 2;want 3 3;want 4 4;want 5 5");
        due.is("rings()", x.rings(), 55);
        due.is("trade()", x.trade(), 5);
        int[] places = {0, 1, 2, 0, 4, 5};
        for (int t = 0; t < places.length; t++) {
            due.is("thing(" + t + ", 3)", x.thing(t, 3), places[t]);
        }
        due.is("house(0, 4), wanted yet", x.house(0, 4), 0);
        due.is("rings()", x.rings(), 0);
        due.refused(x, "trade()", () -> x.trade(), Due.NOT);
        due.is("count(9)", x.count(9), 1);
        due.is("undo()", x.undo(), 0);
        due.is("rings()", x.rings(), 55);
        due.is("thing(0, 3)", x.thing(0, 3), 1);
    }

    private static void tradeEdges() {
        due.about("promises 13, 19, edges");
        HookTies x = Due.commons("house;house;pan 0 0 9;pan 1 1 2;want 0 0;want 1 0");
        due.is("rings(), what it WANTS is AT it", x.rings(), 0);
        due.is("trade()", x.trade(), Due.NOT);
        x.want(0, 1);
        due.is("rings()", x.rings(), 3);
        x.year(1);
        due.is("rings(), both OUT", x.rings(), 0);
        x.undo();
        due.is("rings()", x.rings(), 3);
        due.is("trade()", x.trade(), 2);
        due.is("count(4)", x.count(4), 3);
        x.year(2);
        due.is("thing(1, 3)", x.thing(1, 3), Due.NONE);
        x.want(1, 1);
        due.is("rings(), what is nowhere", x.rings(), 0);
        // A ring of all seven.
        StringBuilder text = new StringBuilder("house;house;house;house;house;house;house");
        for (int h = 0; h < 7; h++) {
            text.append(";cap ").append(h).append(' ').append(h).append(" 9");
        }
        HookTies y = Due.commons(text.toString());
        for (int h = 0; h < 7; h++) {
            y.want(h, (h + 3) % 7);
        }
        due.is("rings()", y.rings(), 127);
        due.is("trade()", y.trade(), 7);
        due.is("house(0, 1)", y.house(0, 1), 8);
        due.is("count(4)", y.count(4), 127);
    }

    private static void undo() {
        due.about("promise 14");
        HookTies x = Due.commons("house;house;pan 0 1 9;pan 1 0 9;pan 0 0 5;want 0 0;want 1 1");
        due.refused(x, "undo()", () -> x.undo(), Due.NOT);
        String first = Look.at(x);
        x.year(12);
        due.is("count(3)", x.count(3), 3);
        due.is("undo()", x.undo(), 0);
        due.holds("a year undone", first.equals(Look.at(x)));
        x.send(2, 1);
        due.is("undo()", x.undo(), 0);
        due.holds("a send undone", first.equals(Look.at(x)));
        x.patch(0, 7);
        due.is("undo()", x.undo(), 0);
        due.holds("a patch undone", first.equals(Look.at(x)));
        x.trade();
        due.is("undo()", x.undo(), 0);
        due.holds("a trade undone", first.equals(Look.at(x)));
        x.year(1);
        x.send(9, 9);
        x.patch(0, 0);
        x.year(13);
        due.is("count(9), none for what was refused", x.count(9), 1);
        x.patch(0, 1);
        due.is("undo()", x.undo(), 1);
        due.is("count(2)", x.count(2), 1);
        due.is("thing(0, 2)", x.thing(0, 2), 8);
    }

    private static void undoEight() {
        due.about("promise 14, eight");
        HookTies x = Due.commons("house;house;spoon 0 1 1;spoon 1 0 1");
        for (int n = 1; n <= 11; n++) {
            x.patch(0, n);
            due.is("count(9)", x.count(9), Math.min(n, 8));
        }
        int worth = 1 + 66;
        for (int n = 11; n > 3; n--) {
            due.is("undo()", x.undo(), n - 4);
            worth -= n;
            due.is("thing(0, 2)", x.thing(0, 2), worth);
        }
        due.refused(x, "undo()", () -> x.undo(), Due.NOT);
        x.year(2);
        due.is("undo()", x.undo(), 0);
        due.is("thing(0, 2)", x.thing(0, 2), 7);
    }

    private static void keepAndBack() {
        due.about("promises 15, 16");
        HookTies x = Due.commons("house;house;house;pan 0 1 9;pan 1 0 9;want 0 1");
        due.refused(x, "keep(-1)", () -> x.keep(-1), Due.UNKNOWN);
        due.refused(x, "keep(2)", () -> x.keep(2), Due.UNKNOWN);
        due.refused(x, "back(-1)", () -> x.back(-1), Due.UNKNOWN);
        due.refused(x, "back(2)", () -> x.back(2), Due.UNKNOWN);
        due.refused(x, "back(0)", () -> x.back(0), Due.NOT);
        due.is("keep(0)", x.keep(0), 0);
        due.refused(x, "back(1)", () -> x.back(1), Due.NOT);
        x.year(3);
        due.is("count(9)", x.count(9), 1);
        due.is("keep(1)", x.keep(1), 3);
        due.is("count(9), keeping is no deed", x.count(9), 1);
        x.year(9);
        x.want(0, 0);
        x.seen(1, 1, 1);
        x.hooks(0, 1);
        x.hang(0, 0, 0, 7);
        Due.tell(x, "pan");
        due.is("back(1)", x.back(1), 3);
        due.is("thing(0, 2)", x.thing(0, 2), 6);
        due.is("count(3)", x.count(3), 4);
        due.is("undo()", x.undo(), Due.NOT);
        due.is("house(0, 4)", x.house(0, 4), 0);
        due.is("count(7)", x.count(7), 1);
        due.is("count(8)", x.count(8), 1);
        due.is("count(10)", x.count(10), 3);
        due.is("back(0)", x.back(0), 0);
        due.is("thing(1, 2)", x.thing(1, 2), 9);
        due.is("count(3)", x.count(3), 0);
        due.is("back(1), kept yet", x.back(1), 3);
        x.patch(0, 1);
        due.is("back(1)", x.back(1), 3);
        due.is("thing(0, 2)", x.thing(0, 2), 6);
        due.is("keep(0)", x.keep(0), 3);
        x.year(1);
        due.is("back(0)", x.back(0), 3);
        x.erase();
        Due.tell(x, "hook");
        due.is("commons()", x.commons(), Due.NOT);
        due.is("back(0), behind a text that was none", x.back(0), 3);
    }
}
