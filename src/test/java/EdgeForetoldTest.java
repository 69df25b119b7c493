/** Each sentence on what is foretold that names an edge (part 3 of the terms, promises 17 to 24), with a test of its own. */
public final class EdgeForetoldTest {
    private static final Due due = new Due();
    private static final String THREE = "house;house;house";
    private static final String SEVEN = "house;house;house;house;house;house;house";
    private static final String CHAIN = SEVEN + ";cap 0 1 9;cap 2 1 9;cap 2 3 9;cap 4 3 9;cap 4 5 9;cap 6 5 9";

    public static void main(String[] args) {
        nothingButYears();
        behindBounds();
        behindNowhere();
        leavesBounds();
        leavesUnknown();
        piecesBounds();
        linked();
        hangs();
        wayBounds();
        wayFewest();
        knitNone();
        knitBounds();
        knitFrom();
        knitFirst();
        wholeBounds();
        wholeStolen();
        wholeLowest();
        due.end();
    }

    private static void nothingButYears() {
        due.about("FORETOLD (nothing changes), nothing but YEARS being done from now");
        // A ring waits, but nobody trades in what is foretold.
        String text = "house;house;pan 0 1 9;pan 1 0 9;want 0 0;want 1 1";
        Run.of(due, text, "rings()=3 behind(0,1,1)=1 behind(0,8,0)=1 leaves(0)=9 pieces(8)=1 pieces(9)=0 count(2)=0 thing(0,2)=9 count(9)=0 rings()=3");
        Run.of(due, text, "year(4)=4 behind(0,4,0)=1 leaves(0)=5 pieces(4)=1 pieces(5)=0 patch(0,1)=6 behind(0,5,0)=1 leaves(1)=6 leaves(0)=5 undo()=1 leaves(1)=5");
    }

    private static void behindBounds() {
        due.about("promise 17: Of a THING behind n YEARS (0 .. 60) .. UNKNOWN; OUTSIDE.");
        Run.of(due, "house;house;pan 0 1 61;spoon 1 0 9", "behind(0,0,0)=61 behind(0,0,1)=1 behind(0,1,0)=60 behind(0,60,0)=1 behind(0,60,1)=1 behind(0,61,0)=OUTSIDE behind(0,-1,0)=OUTSIDE",
            "behind(0,MIN,0)=OUTSIDE behind(0,MAX,0)=OUTSIDE behind(0,0,-1)=OUTSIDE behind(0,0,2)=OUTSIDE behind(0,60,MIN)=OUTSIDE behind(0,0,MAX)=OUTSIDE",
            "behind(2,0,0)=UNKNOWN behind(-1,0,0)=UNKNOWN behind(2,61,0)=UNKNOWN behind(-1,0,2)=UNKNOWN behind(MIN,MIN,MIN)=UNKNOWN year(1)=1 behind(0,60,0)=0 behind(0,60,1)=NONE");
    }

    private static void behindNowhere() {
        due.about("promise 17: WORTH (what 0), the HOUSE (1; NONE)");
        Run.of(due, "house;house;pan 0 1 1;cap 0 0 7;shoe 0 1 2", "behind(0,1,0)=0 behind(0,1,1)=NONE behind(1,1,0)=7 behind(1,1,1)=NONE behind(1,60,0)=7 behind(2,1,0)=0 behind(2,1,1)=NONE",
            "year(1)=1 behind(0,0,0)=0 behind(0,0,1)=NONE behind(1,0,0)=7 behind(1,0,1)=NONE behind(1,60,0)=7");
    }

    private static void leavesBounds() {
        due.about("LEAVES of a HOUSE: behind how many YEARS (0 .. 60) it is OUT; none.");
        Run.of(due, "house;house;house;house;pan 0 1 60;pan 0 2 61;pan 0 3 1", "leaves(0)=1 leaves(1)=60 leaves(2)=NONE leaves(3)=1",
            "year(1)=1 leaves(0)=0 leaves(1)=59 leaves(2)=60 leaves(3)=0 year(12)=13 leaves(0)=0 leaves(2)=48");
        Run.of(due, "house;house;spoon 0 1 1", "leaves(1)=NONE leaves(0)=1");
    }

    private static void leavesUnknown() {
        due.about("promise 18: LEAVES; NONE. UNKNOWN.");
        Run.of(due, "", "leaves(0)=UNKNOWN");
        Run.of(due, SEVEN, "leaves(6)=1 leaves(7)=UNKNOWN leaves(-1)=UNKNOWN leaves(MIN)=UNKNOWN leaves(MAX)=UNKNOWN");
    }

    private static void piecesBounds() {
        due.about("promise 20: PIECES (0 without HOUSES that are in) behind n YEARS (0 .. 60). OUTSIDE.");
        Run.of(due, "", "pieces(0)=0 pieces(60)=0 pieces(61)=OUTSIDE pieces(-1)=OUTSIDE pieces(MIN)=OUTSIDE pieces(MAX)=OUTSIDE");
        Run.of(due, "house", "pieces(0)=1 pieces(1)=0 pieces(60)=0 year(1)=1 pieces(0)=0");
        Run.of(due, SEVEN, "pieces(0)=7 pieces(1)=0");
        Run.of(due, "house;house;pan 0 1 60;pan 1 0 61", "pieces(59)=1 pieces(60)=1 year(1)=1 pieces(59)=1 pieces(60)=0");
    }

    private static void linked() {
        due.about("Two HOUSES that are not OUT are LINKED, if a THING of the one is AT the other (each LINKED to another one of its part, through others)");
        Run.of(due, "house;house;pan 0 1 9", "pieces(0)=1 way(0,1)=1 way(1,0)=1");
        Run.of(due, "house;house;pan 0 0 9;pan 1 1 9", "pieces(0)=2 way(0,1)=NONE");
        Run.of(due, CHAIN, "pieces(0)=1");
        Run.of(due, SEVEN + ";cap 0 1 9;cap 1 2 9;cap 2 0 9;cap 3 4 9;cap 4 3 9", "pieces(0)=4");
        // 1 leaves: that 0 and 2 keep things of it links them no more; nor does a thing that is nowhere.
        Run.of(due, THREE + ";spoon 1 0 9;spoon 1 2 9", "pieces(0)=1 pieces(1)=2 way(0,2)=2 year(1)=1 way(0,2)=NONE pieces(0)=2");
        Run.of(due, "house;house;house;spoon 0 2 9;spoon 1 2 9;spoon 2 0 9;spoon 2 1 9;cap 2 2 9", "pieces(0)=1 pieces(60)=1");
        Run.of(due, "house;house;house;house;spoon 0 1 9;spoon 1 0 9;spoon 2 3 9;spoon 3 2 9;pan 0 3 1", "pieces(0)=1 pieces(1)=2 year(1)=1 pieces(0)=2");
    }

    private static void hangs() {
        due.about("promise 21: HANGS: HOUSES (bits) that are not OUT, without which the others would be in more PIECES than all are with it.");
        Run.of(due, "", "hangs()=0");
        Run.of(due, "house", "hangs()=0");
        Run.of(due, "house;house", "hangs()=0");
        Run.of(due, "house;house;pan 0 1 9", "hangs()=0");
        Run.of(due, THREE + ";pan 0 1 9", "hangs()=0");
        Run.of(due, THREE + ";pan 0 1 9;pan 1 2 9", "hangs()=2");
        Run.of(due, THREE + ";pan 0 1 9;pan 1 2 9;pan 2 0 9", "hangs()=0");
        Run.of(due, THREE + ";pan 0 1 9;pan 2 0 9", "hangs()=1");
        Run.of(due, SEVEN + ";pan 5 6 9;pan 6 4 9", "hangs()=64");
        Run.of(due, CHAIN, "hangs()=62");
        Run.of(due, SEVEN + ";cap 3 0 9;cap 3 1 9;cap 2 3 9;cap 3 4 9;cap 5 3 9;cap 6 3 9", "hangs()=8 year(1)=1 house(3,0)=0 count(3)=100 hangs()=8");
        Run.of(due, SEVEN + ";cap 0 1 9;cap 1 2 9;cap 4 5 9;cap 5 6 9", "hangs()=34 pieces(0)=3");
        // 1 is OUT: nothing hangs by it.
        Run.of(due, THREE + ";spoon 1 0 9;spoon 1 2 9", "hangs()=2 year(1)=1 hangs()=0");
    }

    private static void wayBounds() {
        due.about("promise 22: WAY; NONE. UNKNOWN. (0: it is the same, not OUT)");
        Run.of(due, "", "way(0,0)=UNKNOWN");
        Run.of(due, "house;house;house;spoon 0 1 9", "way(0,0)=0 way(2,2)=0 way(0,2)=NONE way(2,1)=NONE way(0,1)=1",
            "year(1)=1 way(1,1)=0 way(0,0)=NONE way(2,2)=NONE way(0,1)=NONE way(1,0)=NONE way(0,2)=NONE",
            "way(3,0)=UNKNOWN way(0,3)=UNKNOWN way(-1,0)=UNKNOWN way(0,-1)=UNKNOWN way(MIN,MIN)=UNKNOWN way(MAX,0)=UNKNOWN way(1,MAX)=UNKNOWN");
    }

    private static void wayFewest() {
        due.about("promise 22: WAY of two: the fewest LINKS from one to the other one");
        Run.of(due, CHAIN, "way(0,0)=0 way(0,1)=1 way(0,2)=2 way(0,3)=3 way(0,4)=4 way(0,5)=5 way(0,6)=6 way(6,0)=6 way(5,2)=3");
        Run.of(due, CHAIN + ";cap 6 0 9", "way(0,6)=1 way(6,0)=1 way(0,5)=2 way(0,3)=3 way(0,4)=3 way(4,0)=3");
        // A house that is OUT is on no way: 1 keeps nothing, and leaves.
        Run.of(due, "house;house;house;house;spoon 1 0 9;spoon 1 2 9;spoon 0 3 9;spoon 3 2 9", "way(0,2)=2 year(1)=1 count(3)=2 way(0,2)=2 way(0,3)=1");
        Run.of(due, "house;house;house;house;house;spoon 1 0 9;spoon 1 2 9;spoon 0 3 9;spoon 3 4 9;spoon 4 2 9", "way(0,2)=2 year(1)=1 count(3)=2 way(0,2)=3");
    }

    private static void knitNone() {
        due.about("KNIT: the fewest THINGS (0 to 2) .. so that there is one PIECE at most; none");
        String none = "knit(0)=NONE knit(1)=NONE knit(2)=NONE knit(3)=NONE";
        Run.of(due, "", "knit(NONE)=0", none);
        Run.of(due, "house", "knit(NONE)=0", none, "year(1)=1 knit(NONE)=0", none);
        Run.of(due, "house;house;pan 0 1 9", "knit(NONE)=0", none);
        Run.of(due, "house;house", "knit(NONE)=NONE", none);
        Run.of(due, "house;house;pan 0 0 9", "knit(NONE)=1 knit(0)=0 knit(1)=NONE knit(2)=1 knit(3)=NONE");
        Run.of(due, THREE + ";pan 0 0 9;pan 0 0 9", "knit(NONE)=2 knit(0)=0 knit(1)=1 knit(2)=1 knit(3)=2");
        Run.of(due, THREE + ";pan 0 0 9", "knit(NONE)=NONE", none);
        Run.of(due, "house;house;house;house;pan 0 0 9;pan 0 0 9;pan 0 0 9", "knit(NONE)=NONE", none);
        String useless = ";spoon 3 0 9;spoon 3 1 9;spoon 3 2 9";
        Run.of(due, THREE + ";house" + useless.repeat(3) + ";spoon 0 0 9", "year(1)=1 pieces(0)=3 knit(NONE)=NONE", none);
    }

    private static void knitBounds() {
        due.about("promise 23: (k NONE), (k 0, 1), (k 2, 3); NONE. OUTSIDE.");
        Run.of(due, THREE + ";pan 0 0 9;pan 0 0 9", "knit(-2)=OUTSIDE knit(4)=OUTSIDE knit(MIN)=OUTSIDE knit(MAX)=OUTSIDE knit(-1)=2 knit(3)=2");
        Run.of(due, "", "knit(-2)=OUTSIDE knit(4)=OUTSIDE");
    }

    private static void knitFrom() {
        due.about("each from the HOUSE where it is to another one that is not OUT (whoever is TIED then)");
        // The spoon is all that ties 1, and may go all the same.
        Run.of(due, THREE + ";spoon 0 1 9;pan 1 0 9", "send(0,2)=NOT knit(NONE)=1 knit(0)=0 knit(2)=2");
        // What is nowhere is not sent, and nothing is sent to 2, that is OUT, nor links what is of it.
        Run.of(due, "house;house;house;spoon 2 0 9;spoon 2 1 9;cap 0 0 9;cap 2 2 9", "knit(NONE)=0 year(1)=1 count(3)=4 pieces(0)=2 knit(NONE)=1 knit(0)=2 knit(2)=1");
        Run.of(due, "house;house;house;spoon 2 0 9;spoon 2 1 9;pan 0 0 1;cap 2 2 9", "year(1)=1 pieces(0)=2 knit(NONE)=NONE knit(0)=NONE");
        // Sent home it links nothing.
        Run.of(due, "house;house;house;house;spoon 0 1 9;spoon 0 2 9;spoon 3 3 9", "knit(NONE)=1 knit(0)=2 knit(2)=0");
    }

    private static void knitFirst() {
        due.about("of as few the first (the lesser THING, its lesser HOUSE, then the next, greater THING, its HOUSE)");
        // Thing 0 to house 2 goes ahead of thing 1 to house 0.
        Run.of(due, THREE + ";pan 1 0 9;pan 0 1 9", "knit(NONE)=1 knit(0)=0 knit(2)=2");
        Run.of(due, THREE + ";pan 1 0 9;pan 2 2 9", "knit(NONE)=1 knit(0)=1 knit(2)=0");
        Run.of(due, THREE + ";pan 0 2 9;pan 1 1 9;pan 1 1 9", "knit(NONE)=1 knit(0)=1 knit(2)=0");
        // Thing 0 is of no use, but the first of two may be any that leaves the second enough.
        Run.of(due, "house;house;house;house;pan 0 1 9;pan 2 2 9;pan 3 3 9", "knit(NONE)=2 knit(0)=1 knit(1)=2 knit(2)=0 knit(3)=0");
        Run.of(due, "house;house;house;house;pan 0 1 9;pan 3 3 9;pan 2 2 9", "knit(NONE)=2 knit(0)=1 knit(1)=2 knit(2)=0 knit(3)=0");
        Run.of(due, "house;house;house;house;pan 3 3 9;pan 0 1 9;pan 3 3 9", "knit(NONE)=2 knit(0)=0 knit(1)=2 knit(2)=0 knit(3)=2");
        Run.of(due, "house;house;house;house;pan 3 2 9;pan 3 2 9;pan 3 3 9", "knit(NONE)=2 knit(0)=0 knit(1)=2 knit(2)=0 knit(3)=1");
        Run.of(due, "house;house;house;house;spoon 0 1 9;spoon 0 0 9;spoon 1 1 9", "knit(NONE)=2 knit(0)=1 knit(1)=2 knit(2)=2 knit(3)=3");
        // None but the last two of ten link anybody: the others are of 3, that is OUT.
        String useless = ";spoon 3 0 9;spoon 3 1 9;spoon 3 2 9;spoon 3 2 9";
        Run.of(due, THREE + ";house" + useless + useless + ";spoon 0 0 9;spoon 0 0 9", "year(1)=1 pieces(0)=3 knit(NONE)=2 knit(0)=8 knit(1)=9 knit(2)=1 knit(3)=2");
    }

    private static void wholeBounds() {
        due.about("promise 24: stolen by q of four (0 .. 4) .. OUTSIDE. above (part 0), below (1)");
        Run.of(due, "house;house;pan 0 1 9", "whole(-1,0)=OUTSIDE whole(5,0)=OUTSIDE whole(0,-1)=OUTSIDE whole(0,2)=OUTSIDE whole(MIN,0)=OUTSIDE whole(MAX,1)=OUTSIDE whole(4,MIN)=OUTSIDE whole(4,MAX)=OUTSIDE",
            "whole(0,0)=1 whole(0,1)=1 whole(1,0)=3 whole(1,1)=4 whole(2,0)=1 whole(2,1)=2 whole(3,0)=1 whole(3,1)=4 whole(4,0)=0 whole(4,1)=1");
    }

    private static void wholeStolen() {
        due.about("WHOLE: the odds that there is one PIECE at most then");
        for (int q = 0; q <= 4; q++) {
            String one = "whole(" + q + ",0)=1 whole(" + q + ",1)=1";
            String never = "whole(" + q + ",0)=0 whole(" + q + ",1)=1";
            Run.of(due, "", one);
            Run.of(due, "house;pan 0 0 9", one, "year(1)=1", one);
            Run.of(due, "house;house;pan 0 0 9", never);
            Run.of(due, THREE + ";pan 0 1 9;pan 0 1 9", never);
        }
        // Things at their owners, of ones that are OUT, and nowhere, bear on nothing, told ahead of the others or behind them.
        String useless = ";spoon 2 0 9;spoon 2 1 9;cap 0 0 9;pan 1 0 1;cap 2 2 9";
        Run.of(due, THREE + useless + ";spoon 0 1 9;spoon 1 0 9", "year(1)=1 count(3)=4 count(6)=24 whole(1,0)=15 whole(1,1)=16 whole(2,0)=3 whole(2,1)=4 whole(4,0)=0 whole(4,1)=1");
        Run.of(due, THREE + ";spoon 0 1 9" + useless, "year(1)=1 count(3)=4 count(6)=48 whole(1,0)=3 whole(1,1)=4 whole(3,0)=1 whole(3,1)=4");
        Run.of(due, THREE + ";pan 0 1 9;pan 1 2 9", "whole(1,0)=9 whole(1,1)=16 whole(3,0)=1 whole(3,1)=16 whole(2,0)=1 whole(2,1)=4 whole(0,0)=1 whole(4,0)=0 whole(4,1)=1");
    }

    private static void wholeLowest() {
        due.about("Parts are told in lowest terms: above (part 0), below (1).");
        Run.of(due, "house;house;pan 0 1 9;pan 1 0 9", "whole(2,0)=3 whole(2,1)=4 whole(1,0)=15 whole(1,1)=16 whole(3,0)=7 whole(3,1)=16");
        Run.of(due, THREE + ";pan 0 1 9;pan 1 2 9;pan 2 0 9", "whole(1,0)=27 whole(1,1)=32 whole(2,0)=1 whole(2,1)=2 whole(3,0)=5 whole(3,1)=32");
        Run.of(due, "house;house" + ";pan 0 1 9".repeat(10), "whole(1,0)=1048575 whole(1,1)=1048576 whole(2,0)=1023 whole(2,1)=1024 whole(3,0)=989527 whole(3,1)=1048576 whole(0,1)=1 whole(4,1)=1");
        Run.of(due, CHAIN, "whole(1,0)=729 whole(1,1)=4096 whole(2,0)=1 whole(2,1)=64 whole(3,0)=1 whole(3,1)=4096");
    }
}
