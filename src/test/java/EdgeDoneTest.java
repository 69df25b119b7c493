/** Each sentence on what is done that names an edge (part 2 of the terms, promises 10 to 16), with a test of its own. */
public final class EdgeDoneTest {
    private static final Due due = new Due();
    // Spoons never wear: both houses stay, and what else is told wears beside them.
    private static final String PAIR = "house;house;spoon 0 1 9;spoon 1 0 9";

    public static void main(String[] args) {
        tied();
        wornOut();
        nowhereStays();
        leaving();
        wearsByKind();
        yearBounds();
        yearsTogether();
        yearFull();
        sendUnknown();
        sendNot();
        sendTied();
        patchBounds();
        patchNot();
        ringArrows();
        ringSizes();
        tradeAtOnce();
        tradeNot();
        undoEach();
        undoEight();
        undoNot();
        keepBounds();
        keepAll();
        backNot();
        backUndoes();
        due.end();
    }

    private static void tied() {
        due.about("A HOUSE is TIED, if it is not OUT, and a THING that is not its own is AT it.");
        Run.of(due, "house", "house(0,3)=0 count(4)=0");
        Run.of(due, "house;pan 0 0 9", "house(0,3)=0 year(1)=1 house(0,0)=1 house(0,3)=0 count(4)=0");
        Run.of(due, "house;house;spoon 0 1 9", "house(0,3)=0 house(1,3)=1 count(4)=2 year(1)=1 count(4)=2 year(12)=13 house(1,3)=1 house(1,0)=0");
        Run.of(due, "house;house;pan 0 1 9;pan 1 1 9", "count(4)=2 send(0,0)=NOT send(1,0)=1 count(4)=3");
    }

    private static void wornOut() {
        due.about("at 0, or below, it is nowhere, of WORTH 0");
        Run.of(due, PAIR + ";pan 0 1 2;pan 0 1 1;pipe 0 1 2;pipe 0 1 1;shoe 0 1 3;shoe 0 1 2;shoe 0 1 4;cap 0 1 1",
            "year(1)=1 thing(2,2)=1 thing(2,3)=1 thing(3,2)=0 thing(3,3)=NONE thing(4,2)=0 thing(4,3)=NONE thing(5,2)=0 thing(5,3)=NONE",
            "thing(6,2)=0 thing(6,3)=NONE thing(7,2)=0 thing(7,3)=NONE thing(8,2)=1 thing(8,3)=1 thing(9,2)=0 thing(9,3)=NONE count(3)=0");
        Run.of(due, "house;house;spoon 0 1 1;spoon 1 0 1", "year(12)=12 thing(0,2)=1 thing(0,3)=1 count(3)=0");
    }

    private static void nowhereStays() {
        due.about("what is AT them is nowhere (WORTH stays): it wears no more, and never ties again");
        Run.of(due, "house;house;pan 0 0 9;pipe 0 0 9;spoon 0 1 9", "year(1)=1 thing(0,2)=8 thing(0,3)=NONE thing(1,2)=7 thing(1,3)=NONE",
            "year(12)=13 thing(0,2)=8 thing(1,2)=7 house(0,1)=0 house(0,2)=7 count(6)=3");
    }

    private static void leaving() {
        due.about("Then all HOUSES that are not OUT and not TIED are OUT at once");
        // What wears away in a year ties nobody behind it; all that are not tied leave in the same year.
        Run.of(due, "house;house;house;pan 0 1 1;pan 1 2 2;cap 2 2 5", "year(1)=1 count(3)=3 year(1)=2 count(3)=7 thing(2,3)=NONE thing(2,2)=5");
        // One whose things are kept elsewhere may leave: those who keep them stay.
        Run.of(due, "house;house;house;spoon 0 1 9;spoon 0 2 9;cap 1 1 9", "year(1)=1 count(3)=1 thing(0,3)=1 thing(2,3)=1 year(12)=13 count(3)=1");
        due.about("Then it is the next YEAR.");
        Run.of(due, "", "year(1)=1 year(1)=2 count(2)=2 count(3)=0");
    }

    private static void wearsByKind() {
        due.about("By KIND it WEARS: .. SHOE: by 3, but by 0 AT its OWNER. CAP: as SHOE, but 1 less (0 at least).");
        String home = PAIR + ";pan 0 0 50;spoon 0 0 50;pipe 0 0 50;shoe 0 0 50;cap 0 0 50";
        Run.of(due, home, "year(1)=1 thing(2,2)=49 thing(3,2)=50 thing(4,2)=48 thing(5,2)=50 thing(6,2)=50");
        String away = PAIR + ";pan 0 1 50;spoon 0 1 50;pipe 0 1 50;shoe 0 1 50;cap 0 1 50";
        Run.of(due, away, "year(1)=1 thing(2,2)=49 thing(3,2)=50 thing(4,2)=48 thing(5,2)=47 thing(6,2)=48");
        Run.of(due, away, "year(1)=1 send(5,0)=1 send(6,0)=1 year(2)=3 thing(5,2)=47 thing(6,2)=48 send(5,1)=0 year(1)=4 thing(5,2)=44 thing(6,2)=48");
    }

    private static void yearBounds() {
        due.about("promise 10: YEARS (n 1 .. 12 ..): which it is. OUTSIDE");
        Run.of(due, PAIR, "year(0)=OUTSIDE year(13)=OUTSIDE year(-1)=OUTSIDE year(MIN)=OUTSIDE year(MAX)=OUTSIDE year(1)=1 year(12)=13 count(2)=13");
    }

    private static void yearsTogether() {
        due.about("promise 10: together they are undone");
        Run.of(due, "house;house;pan 0 1 12;pipe 1 0 12", "year(12)=12 count(3)=3 count(9)=1 undo()=0 count(2)=0 count(3)=0 thing(0,2)=12 thing(1,2)=12");
        Run.of(due, PAIR, "year(2)=2 year(3)=5 count(9)=2 undo()=1 count(2)=2 undo()=0 count(2)=0");
    }

    private static void yearFull() {
        due.about("promise 10: FULL: it would be above 999.");
        StringBuilder years = new StringBuilder();
        for (int y = 12; y <= 996; y += 12) {
            years.append("year(12)=").append(y).append(' ');
        }
        Run.of(due, PAIR, years.toString(), "year(4)=FULL year(12)=FULL year(13)=OUTSIDE year(0)=OUTSIDE count(9)=8 year(2)=998 year(2)=FULL year(1)=999",
            "year(1)=FULL year(12)=FULL count(2)=999 keep(0)=999 leaves(0)=NONE behind(0,60,1)=1 pieces(60)=1 undo()=7 year(1)=999 back(0)=999 year(1)=FULL");
    }

    private static void sendUnknown() {
        due.about("promise 11: SENT: the HOUSE where it was. UNKNOWN");
        Run.of(due, PAIR + ";pan 0 0 1", "send(3,0)=UNKNOWN send(-1,0)=UNKNOWN send(0,2)=UNKNOWN send(0,-1)=UNKNOWN send(MIN,0)=UNKNOWN send(0,MAX)=UNKNOWN",
            "send(2,1)=0 year(1)=1 send(2,2)=UNKNOWN send(2,NONE)=UNKNOWN");
        Run.of(due, "house", "send(0,0)=UNKNOWN");
    }

    private static void sendNot() {
        due.about("promise 11: NOT: it is nowhere, is there, the HOUSE is OUT");
        Run.of(due, "house;house;house;spoon 0 1 9;spoon 1 0 9;spoon 2 1 9;pan 0 0 1;cap 2 2 4", "send(0,1)=NOT send(4,2)=NOT send(3,0)=NOT",
            "year(1)=1 count(3)=4 send(3,1)=NOT send(3,0)=NOT send(4,0)=NOT send(2,2)=NOT send(0,2)=NOT send(2,0)=1");
    }

    private static void sendTied() {
        due.about("promise 11: NOT: .. the HOUSE where it is is TIED, and would not be then.");
        Run.of(due, "house;house;house;pan 0 1 9;pan 2 1 9;pan 1 1 9", "send(0,0)=1 send(1,0)=NOT send(1,2)=NOT send(2,0)=1 thing(2,3)=0",
            "send(0,1)=0 send(1,2)=1 send(0,0)=NOT send(0,2)=NOT");
        Run.of(due, "house;house;pan 0 0 9", "house(0,3)=0 send(0,1)=0 house(1,3)=1 send(0,0)=NOT");
        Run.of(due, "house;house" + ";pan 1 1 9".repeat(9) + ";pan 0 1 9", "send(9,0)=NOT send(8,0)=1 send(9,0)=NOT send(0,0)=1");
        Run.of(due, "house;house;pan 0 1 9" + ";pan 1 1 9".repeat(8) + ";pan 0 1 9", "send(0,0)=1 send(9,0)=NOT send(0,1)=0 send(9,0)=1 send(0,0)=NOT");
        // What of its own is there besides does not tie it.
        Run.of(due, "house;house;pan 0 1 9;pan 1 1 9;pan 1 1 9", "send(0,0)=NOT send(1,0)=1 send(0,0)=NOT send(2,0)=1 send(1,1)=0 send(2,1)=NOT");
    }

    private static void patchBounds() {
        due.about("promise 12: PATCHED by n (1 .. 99; 99 at most): WORTH then. UNKNOWN; OUTSIDE");
        Run.of(due, PAIR, "patch(0,0)=OUTSIDE patch(0,100)=OUTSIDE patch(0,-1)=OUTSIDE patch(0,MIN)=OUTSIDE patch(0,MAX)=OUTSIDE",
            "patch(2,1)=UNKNOWN patch(-1,1)=UNKNOWN patch(2,0)=UNKNOWN patch(-1,100)=UNKNOWN patch(MAX,MAX)=UNKNOWN",
            "patch(0,1)=10 patch(0,88)=98 patch(0,1)=99 patch(1,99)=99 undo()=3 patch(1,90)=99 undo()=3 patch(1,91)=99 undo()=3 patch(1,89)=98 patch(1,2)=99");
    }

    private static void patchNot() {
        due.about("promise 12: NOT: it is nowhere, of WORTH 99.");
        Run.of(due, PAIR + ";pan 0 1 1;pan 0 1 99", "patch(3,1)=NOT patch(3,99)=NOT patch(3,0)=OUTSIDE patch(3,100)=OUTSIDE year(1)=1 patch(3,1)=99 patch(3,1)=NOT",
            "patch(2,1)=NOT patch(2,0)=OUTSIDE");
        Run.of(due, "house;house;spoon 0 1 9;cap 0 0 5", "year(1)=1 thing(1,2)=5 patch(1,1)=NOT");
    }

    private static void ringArrows() {
        due.about("TRADED: of each HOUSE that is not OUT and WANTS a THING that is AT another HOUSE an arrow goes to that one");
        Run.of(due, "house;cap 0 0 9;want 0 0", "rings()=0 trade()=NOT");
        Run.of(due, "house;house;cap 0 0 9;cap 1 1 9;want 0 1", "rings()=0 trade()=NOT want(1,1)=NONE rings()=0 trade()=NOT want(1,0)=1 rings()=3 want(0,NONE)=1 rings()=0 trade()=NOT");
        // One that wants what is nowhere, and one that is OUT, have no arrow.
        Run.of(due, PAIR + ";pan 0 0 1;want 0 0;want 1 2", "rings()=3 year(1)=1 rings()=0 trade()=NOT want(1,1)=2 rings()=3");
        Run.of(due, "house;house;house;spoon 0 1 9;spoon 1 0 9;cap 2 2 9;want 2 0;want 1 2", "rings()=6 year(1)=1 rings()=0 trade()=NOT");
        // Whose a thing is does not matter, but where it is.
        Run.of(due, PAIR + ";want 0 0;want 1 1", "rings()=3");
    }

    private static void ringSizes() {
        due.about("promises 13, 19: HOUSES on a RING of such arrows (2 to 7 of them, several RINGS, others that lead there)");
        for (int n = 2; n <= 7; n++) {
            StringBuilder text = new StringBuilder("house" + ";house".repeat(n - 1));
            StringBuilder wants = new StringBuilder();
            StringBuilder there = new StringBuilder();
            for (int h = 0; h < n; h++) {
                text.append(";cap ").append(h).append(' ').append(h).append(" 9");
                wants.append("want(").append(h).append(',').append((h + 1) % n).append(")=NONE ");
                there.append("thing(").append((h + 1) % n).append(",3)=").append(h).append(' ');
            }
            int all = (1 << n) - 1;
            Run.of(due, text.toString(), wants.toString(), "rings()=" + all + " trade()=" + n, there.toString(), "count(4)=" + all + " rings()=0 trade()=NOT");
        }
        String four = "house;house;house;house;house;house;house;cap 0 0 9;cap 1 1 9;cap 2 2 9;cap 3 3 9";
        Run.of(due, four, "want(0,1)=NONE want(1,0)=NONE want(2,3)=NONE want(3,2)=NONE want(4,0)=NONE want(5,0)=NONE want(6,3)=NONE rings()=15 trade()=4 thing(0,3)=1 thing(3,3)=2");
        // Two want the same thing: the one on the ring gets it.
        Run.of(due, "house;house;house;cap 0 0 9;cap 1 1 9;want 1 0;want 2 0;want 0 1", "rings()=3 trade()=2 thing(0,3)=1 rings()=0 house(2,4)=0");
    }

    private static void tradeAtOnce() {
        due.about("all get what they WANT, at once (whoever is TIED then)");
        Run.of(due, "house;house;spoon 0 1 9;spoon 1 0 9;want 0 0;want 1 1", "count(4)=3 trade()=2 thing(0,3)=0 thing(1,3)=1 count(4)=0 count(9)=1 house(0,4)=0 year(1)=1 count(3)=3 undo()=1 undo()=0 count(4)=3");
    }

    private static void tradeNot() {
        due.about("promise 13: NOT: no RING.");
        Run.of(due, "", "trade()=NOT rings()=0");
        Run.of(due, "house;house;house;cap 0 0 9;cap 1 1 9;cap 2 2 9;want 0 1;want 1 2", "rings()=0 trade()=NOT count(9)=0");
    }

    private static void undoEach() {
        due.about("promise 14: The latest year(), send(), patch(), trade() is undone: how many can be undone yet.");
        Run.of(due, PAIR + ";cap 0 0 9;want 0 0;want 1 1", "year(1)=1 send(2,1)=0 patch(2,4)=13 trade()=2 count(9)=4 year(1)=2",
            "undo()=4 count(2)=1 undo()=3 thing(0,3)=1 thing(2,2)=13 undo()=2 thing(2,2)=9 undo()=1 thing(2,3)=0 undo()=0 count(2)=0 undo()=NOT");
        due.about("promise 14: nothing else is");
        Run.of(due, PAIR, "want(0,0)=NONE keep(0)=0 seen(1,1,1)=1 hooks(0,1)=1 hang(0,0,0,1)=1 write(97)=1 undo()=NOT year(1)=1 want(0,1)=0 hang(0,0,0,2)=ROOM forget()=1 write(97)=2",
            "undo()=0 house(0,4)=1 count(7)=0 count(8)=1 count(10)=2 undo()=NOT");
    }

    private static void undoEight() {
        due.about("promise 14: (the last 8 can be)");
        String seven = "patch(0,1)=10 patch(0,1)=11 patch(0,1)=12 patch(0,1)=13 patch(0,1)=14 patch(0,1)=15 patch(0,1)=16 count(9)=7";
        String back = "undo()=7 undo()=6 undo()=5 undo()=4 undo()=3 undo()=2 undo()=1 undo()=0";
        Run.of(due, PAIR, seven, "patch(0,1)=17 count(9)=8", back, "thing(0,2)=9 undo()=NOT");
        Run.of(due, PAIR, seven, "patch(0,1)=17 patch(0,1)=18 count(9)=8", back, "thing(0,2)=10 undo()=NOT");
        Run.of(due, PAIR, seven, "patch(0,1)=17 patch(0,1)=18 patch(0,1)=19 year(12)=12 count(9)=8", back, "thing(0,2)=12 count(2)=0 undo()=NOT patch(0,5)=17 undo()=0 thing(0,2)=12");
        Run.of(due, PAIR, seven, "patch(0,1)=17 undo()=7 patch(0,2)=18 patch(0,1)=19 undo()=7 thing(0,2)=18 undo()=6 thing(0,2)=16");
    }

    private static void undoNot() {
        due.about("promise 14: NOT: none.");
        Run.of(due, "", "undo()=NOT year(1)=1 undo()=0 undo()=NOT");
        Run.of(due, PAIR, "year(0)=OUTSIDE send(0,0)=NOT patch(0,0)=OUTSIDE trade()=NOT undo()=NOT");
    }

    private static void keepBounds() {
        due.about("promise 15: (k 0, 1): the YEAR. UNKNOWN: no such k.");
        Run.of(due, PAIR, "keep(-1)=UNKNOWN keep(2)=UNKNOWN keep(MIN)=UNKNOWN keep(MAX)=UNKNOWN keep(0)=0 year(5)=5 keep(1)=5 keep(2)=UNKNOWN count(9)=1");
    }

    private static void keepAll() {
        due.about("promise 15: All but what is WANTED, SEEN, THE TEXT, HOOKS is kept");
        Run.of(due, "house;house;house;pan 0 1 9;pan 1 0 9;cap 2 2 9;want 0 0", "year(1)=1 keep(0)=1 want(0,1)=0 want(1,1)=NONE seen(1,0,1)=1 'ab' hooks(1,2)=2 hang(1,0,2,3)=1",
            "patch(0,50)=58 send(0,0)=NOT year(12)=13 count(3)=5 back(0)=1 count(2)=1 count(3)=4 thing(0,2)=8 thing(0,3)=1 thing(2,3)=NONE",
            "house(0,4)=1 house(1,4)=1 count(7)=1 count(10)=2 count(8)=1 find(1,2,3)=0");
        due.about("promise 15: again, in place of what was kept");
        Run.of(due, PAIR, "keep(0)=0 keep(1)=0 year(2)=2 keep(0)=2 year(3)=5 back(0)=2 back(1)=0 back(0)=2 back(0)=2");
        due.about("promise 15: what was kept stays, whatever is undone");
        Run.of(due, PAIR, "year(2)=2 patch(0,9)=18 keep(1)=2 undo()=1 undo()=0 back(1)=2 thing(0,2)=18 patch(0,1)=19 undo()=0 back(1)=2 thing(0,2)=18");
    }

    private static void backNot() {
        due.about("promise 16: UNKNOWN; NOT: nothing was kept since the last text.");
        Run.of(due, PAIR, "back(-1)=UNKNOWN back(2)=UNKNOWN back(MIN)=UNKNOWN back(MAX)=UNKNOWN year(1)=1 back(0)=NOT back(1)=NOT keep(0)=1 back(1)=NOT year(1)=2 back(0)=1",
            "keep(1)=1 'want 0 0' commons()=1 back(0)=NOT back(1)=NOT keep(1)=0 back(0)=NOT back(1)=0");
        Run.of(due, PAIR, "year(3)=3 keep(0)=3 'x' commons()=NOT year(1)=4 back(0)=3");
        Run.of(due, "", "year(3)=3 keep(0)=3 year(1)=4 back(0)=3 back(1)=NOT");
    }

    private static void backUndoes() {
        due.about("promise 16: It is as it was kept, nothing can be undone: the YEAR.");
        Run.of(due, PAIR, "year(1)=1 keep(0)=1 year(1)=2 count(9)=2 back(0)=1 count(9)=0 undo()=NOT count(2)=1 year(1)=2 count(9)=1 undo()=0 count(2)=1");
    }
}
