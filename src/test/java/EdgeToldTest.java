/** Each sentence of promises 6 to 9 and 35 that names an edge, with a test of its own. */
public final class EdgeToldTest {
    private static final Due due = new Due();
    // 0 keeps a spoon of 1 and its own cap; 1 keeps a pan of 0; 2 keeps its own shoe alone.
    private static final String TEXT = "house;house;house;spoon 1 0 9;cap 0 0 8;pan 0 1 7;shoe 2 2 6;want 0 2";

    public static void main(String[] args) {
        houseNone();
        houseOut();
        houseThings();
        houseTied();
        houseWants();
        thingNone();
        thingNowhere();
        thingWears();
        asKinds();
        asRefused();
        want();
        count();
        due.end();
    }

    private static void houseNone() {
        due.about("promise 6: Of a HOUSE .. UNKNOWN; OUTSIDE.");
        Run.of(due, TEXT, "house(3,0)=UNKNOWN house(-1,0)=UNKNOWN house(MIN,0)=UNKNOWN house(MAX,0)=UNKNOWN",
            "house(0,-1)=OUTSIDE house(0,5)=OUTSIDE house(2,MIN)=OUTSIDE house(2,MAX)=OUTSIDE",
            "house(3,5)=UNKNOWN house(-1,-1)=UNKNOWN");
    }

    private static void houseOut() {
        due.about("promise 6: 1 it is OUT, 0 (what 0)");
        Run.of(due, TEXT, "house(0,0)=0 house(1,0)=0 house(2,0)=0 year(1)=1 house(0,0)=0 house(1,0)=0 house(2,0)=1 undo()=0 house(2,0)=0");
    }

    private static void houseThings() {
        due.about("promise 6: THINGS AT it (1, bits), its own, wherever (2, bits)");
        Run.of(due, "house", "house(0,1)=0 house(0,2)=0");
        Run.of(due, TEXT, "house(0,1)=3 house(1,1)=4 house(2,1)=8 house(0,2)=6 house(1,2)=1 house(2,2)=8",
            "year(1)=1 house(2,1)=0 house(2,2)=8 year(6)=7 house(1,1)=0 house(0,2)=6");
    }

    private static void houseTied() {
        due.about("promise 6: 1 it is TIED, 0 (3)");
        Run.of(due, TEXT, "house(0,3)=1 house(1,3)=1 house(2,3)=0 year(1)=1 house(2,3)=0 year(6)=7 house(1,3)=0 house(0,3)=1");
    }

    private static void houseWants() {
        due.about("promise 6: what it WANTS (4; NONE)");
        Run.of(due, TEXT, "house(0,4)=2 house(1,4)=NONE want(1,0)=NONE house(1,4)=0 want(0,NONE)=2 house(0,4)=NONE",
            "want(2,3)=NONE year(1)=1 house(2,4)=3 year(12)=13 house(1,4)=0");
    }

    private static void thingNone() {
        due.about("promise 7: Of a THING .. UNKNOWN; OUTSIDE.");
        Run.of(due, TEXT, "thing(4,0)=UNKNOWN thing(-1,0)=UNKNOWN thing(MIN,0)=UNKNOWN thing(MAX,0)=UNKNOWN",
            "thing(0,-1)=OUTSIDE thing(0,5)=OUTSIDE thing(3,MIN)=OUTSIDE thing(3,MAX)=OUTSIDE",
            "thing(4,5)=UNKNOWN thing(-1,-1)=UNKNOWN");
    }

    private static void thingNowhere() {
        due.about("promise 7: the HOUSE (3; NONE: nowhere)");
        Run.of(due, TEXT, "thing(2,3)=1 thing(3,3)=2 year(6)=6 thing(2,3)=1 thing(2,2)=1 thing(3,3)=NONE thing(3,2)=6 thing(3,1)=2 thing(3,0)=3",
            "year(1)=7 thing(2,3)=NONE thing(2,2)=0 thing(2,1)=0 thing(2,0)=0");
    }

    private static void thingWears() {
        due.about("promise 7: by how much it WEARS now (4; 0 nowhere)");
        Run.of(due, "house;house;pan 0 0 9;pan 0 1 9;spoon 0 0 9;spoon 0 1 9;pipe 0 0 9;pipe 0 1 9;shoe 0 0 9;shoe 0 1 9;cap 0 0 9;cap 0 1 9",
            "thing(0,4)=1 thing(1,4)=1 thing(2,4)=0 thing(3,4)=0 thing(4,4)=2 thing(5,4)=2 thing(6,4)=0 thing(7,4)=3 thing(8,4)=0 thing(9,4)=2",
            "send(6,1)=0 thing(6,4)=3 send(9,0)=1 thing(9,4)=0 send(8,1)=0 thing(8,4)=2");
        Run.of(due, "house;house;pipe 0 0 9;pipe 0 1 1;cap 0 1 2", "thing(1,4)=2 year(1)=1 thing(0,4)=0 thing(0,2)=7 thing(1,4)=0 thing(2,4)=0");
        // The owner is OUT, and the shoe is at another: it wears as at another.
        Run.of(due, "house;house;shoe 0 1 9", "year(1)=1 house(0,0)=1 thing(0,4)=3 thing(0,2)=6");
    }

    private static void asKinds() {
        due.about("promise 8: KINDS are over one another: THING (0); PAN (1) and SHOE (4); SPOON (2), PIPE (3) is PAN; CAP (5) is SHOE. NOT: it is none such.");
        Run.of(due, "house;pan 0 0 9;spoon 0 0 9;pipe 0 0 9;shoe 0 0 9;cap 0 0 9",
            "as(0,0)=1 as(0,1)=1 as(0,2)=NOT as(0,3)=NOT as(0,4)=NOT as(0,5)=NOT",
            "as(1,0)=0 as(1,1)=0 as(1,2)=0 as(1,3)=NOT as(1,4)=NOT as(1,5)=NOT",
            "as(2,0)=2 as(2,1)=2 as(2,2)=NOT as(2,3)=2 as(2,4)=NOT as(2,5)=NOT",
            "as(3,0)=3 as(3,1)=NOT as(3,2)=NOT as(3,3)=NOT as(3,4)=3 as(3,5)=NOT",
            "as(4,0)=2 as(4,1)=NOT as(4,2)=NOT as(4,3)=NOT as(4,4)=2 as(4,5)=2");
        due.about("promise 8: by how much it would WEAR AT another than its OWNER (wherever it is)");
        Run.of(due, "house;house;shoe 0 1 1;cap 0 0 5", "as(0,4)=3 as(1,5)=2 year(1)=1 thing(0,3)=NONE as(0,4)=3 as(0,0)=3 as(1,4)=2");
    }

    private static void asRefused() {
        due.about("promise 8: (0 .. 5) .. UNKNOWN; OUTSIDE; NOT");
        Run.of(due, "house;pan 0 0 9", "as(1,0)=UNKNOWN as(-1,0)=UNKNOWN as(MIN,0)=UNKNOWN as(MAX,6)=UNKNOWN as(1,-1)=UNKNOWN as(1,5)=UNKNOWN",
            "as(0,-1)=OUTSIDE as(0,6)=OUTSIDE as(0,MIN)=OUTSIDE as(0,MAX)=OUTSIDE as(0,5)=NOT as(0,0)=1");
    }

    private static void want() {
        due.about("promise 9: A HOUSE WANTS a THING (NONE: nothing): what it WANTED; NONE. UNKNOWN.");
        Run.of(due, TEXT, "want(1,3)=NONE want(1,0)=3 want(1,0)=0 want(1,NONE)=0 want(1,NONE)=NONE want(0,3)=2",
            "want(3,0)=UNKNOWN want(-1,0)=UNKNOWN want(3,NONE)=UNKNOWN want(0,4)=UNKNOWN want(0,-2)=UNKNOWN want(MIN,MAX)=UNKNOWN want(0,MIN)=UNKNOWN want(0,MAX)=UNKNOWN",
            "house(0,4)=3 count(9)=0 undo()=NOT");
        Run.of(due, "house", "want(0,0)=UNKNOWN want(0,NONE)=NONE want(1,NONE)=UNKNOWN");
        Run.of(due, "", "want(0,NONE)=UNKNOWN want(0,0)=UNKNOWN");
    }

    private static void count() {
        due.about("promise 35: 0 HOUSES, 1 THINGS, .. 10 letters of THE TEXT. OUTSIDE.");
        Run.of(due, "", "count(-1)=OUTSIDE count(11)=OUTSIDE count(MIN)=OUTSIDE count(MAX)=OUTSIDE");
        Run.of(due, TEXT, "count(0)=3 count(1)=4 count(2)=0 count(3)=0 count(4)=3 count(5)=30 count(6)=0",
            "year(2)=2 count(2)=2 count(3)=4 count(4)=3 count(5)=28 count(6)=8 year(5)=7 count(3)=6 count(4)=1 count(5)=23 count(6)=12",
            "count(7)=0 seen(1,0,0)=1 count(7)=1 count(9)=2 undo()=1 count(9)=1 'abc' count(10)=3",
            "count(8)=0 hooks(0,12)=12 hooks(1,1)=1 hooks(2,1)=1 count(8)=0 hang(0,0,0,1)=1 hang(1,0,2,1)=1 hang(2,0,1,1)=1 count(8)=3 drop(1)=1 count(8)=2");
        due.about("promise 35: as many as there can be");
        Run.of(due, "house;house;house;house;house;house;house" + ";cap 0 1 99".repeat(10), "count(0)=7 count(1)=10 count(5)=990 count(4)=2");
        String twelve = " hang(0,0,0,1)=1 hang(0,0,0,1)=2 hang(0,0,0,1)=3 join(0,0)=6 join(0,0)=12";
        Run.of(due, "house", "hooks(0,12)=12 hooks(1,12)=12 hooks(2,12)=12" + twelve + " join(1,0)=12 join(2,1)=12 count(8)=36");
    }
}
