/** Promises 17 to 24: behind, leaves, rings (with trade, in DoneTest), pieces, hangs, way, knit, whole. */
public final class ForetoldTest {
    private static final Due due = new Due();
    private static final String SIX = "house;house;house;house;house;house";

    public static void main(String[] args) {
        behind();
        leaves();
        pieces();
        hangs();
        way();
        knit();
        knitEdges();
        whole();
        wholeEdges();
        due.end();
    }

    private static void behind() {
        due.about("promise 17");
        HookTies x = Due.commons("house;house;pan 0 1 3;spoon 1 0 9;shoe 1 1 50;pan 0 1 61");
        String first = Look.at(x);
        due.is("behind(0, 0, 0)", x.behind(0, 0, 0), 3);
        due.is("behind(0, 2, 0)", x.behind(0, 2, 0), 1);
        due.is("behind(0, 2, 1)", x.behind(0, 2, 1), 1);
        due.is("behind(0, 3, 0)", x.behind(0, 3, 0), 0);
        due.is("behind(0, 3, 1)", x.behind(0, 3, 1), Due.NONE);
        due.is("behind(3, 60, 0)", x.behind(3, 60, 0), 1);
        due.is("behind(1, 60, 1)", x.behind(1, 60, 1), 0);
        due.is("behind(2, 60, 0)", x.behind(2, 60, 0), 50);
        due.holds("nothing changed", first.equals(Look.at(x)));
        x.year(2);
        due.is("behind(3, 59, 1)", x.behind(3, 59, 1), Due.NONE);
        due.is("behind(2, 59, 1), its house gone", x.behind(2, 59, 1), Due.NONE);
        due.is("behind(2, 59, 0)", x.behind(2, 59, 0), 50);
        due.refused(x, "behind(4, 0, 0)", () -> x.behind(4, 0, 0), Due.UNKNOWN);
        due.refused(x, "behind(-1, 99, 9)", () -> x.behind(-1, 99, 9), Due.UNKNOWN);
        due.refused(x, "behind(0, -1, 0)", () -> x.behind(0, -1, 0), Due.OUTSIDE);
        due.refused(x, "behind(0, 61, 0)", () -> x.behind(0, 61, 0), Due.OUTSIDE);
        due.refused(x, "behind(0, 0, -1)", () -> x.behind(0, 0, -1), Due.OUTSIDE);
        due.refused(x, "behind(0, 0, 2)", () -> x.behind(0, 0, 2), Due.OUTSIDE);
    }

    private static void leaves() {
        due.about("promise 18");
        HookTies x = Due.commons(SIX + ";pan 0 1 60;pan 0 2 61;spoon 0 3 1;shoe 0 4 7");
        due.is("leaves(0)", x.leaves(0), 1);
        due.is("leaves(1)", x.leaves(1), 60);
        due.is("leaves(2)", x.leaves(2), Due.NONE);
        due.is("leaves(3)", x.leaves(3), Due.NONE);
        due.is("leaves(4)", x.leaves(4), 3);
        due.is("leaves(5)", x.leaves(5), 1);
        x.year(1);
        due.is("leaves(0), OUT", x.leaves(0), 0);
        due.is("leaves(2)", x.leaves(2), 60);
        due.is("count(2)", x.count(2), 1);
        due.refused(x, "leaves(6)", () -> x.leaves(6), Due.UNKNOWN);
        due.refused(x, "leaves(-1)", () -> x.leaves(-1), Due.UNKNOWN);
    }

    private static void pieces() {
        due.about("promise 20");
        HookTies x = Due.commons(SIX + ";spoon 0 1 9;spoon 1 0 9;pan 2 3 2;pan 3 2 4;pipe 1 2 9;shoe 4 4 9");
        due.is("pieces(0)", x.pieces(0), 3);
        due.is("pieces(1)", x.pieces(1), 1);
        due.is("pieces(2)", x.pieces(2), 1);
        due.is("pieces(5)", x.pieces(5), 1);
        HookTies y = Due.commons("house;house;house;house;pan 0 1 2;pan 1 0 2;pan 2 3 3;pan 3 2 3");
        due.is("pieces(1)", y.pieces(1), 2);
        due.is("pieces(2)", y.pieces(2), 1);
        due.is("pieces(3), none in", y.pieces(3), 0);
        due.is("pieces(60)", y.pieces(60), 0);
        due.refused(y, "pieces(-1)", () -> y.pieces(-1), Due.OUTSIDE);
        due.refused(y, "pieces(61)", () -> y.pieces(61), Due.OUTSIDE);
        // What is AT its owner links nothing, and one that is OUT links no others: 0 and 2 hold on to things of 1 alone.
        HookTies z = Due.commons("house;house;house;spoon 1 0 9;spoon 1 2 9");
        due.is("pieces(0)", z.pieces(0), 1);
        due.is("pieces(1)", z.pieces(1), 2);
    }

    private static void hangs() {
        due.about("promise 21");
        HookTies x = Due.commons(SIX + ";pan 0 1 9;pan 1 2 9;pan 2 0 9;pan 3 2 9;pan 3 4 9");
        due.is("hangs()", x.hangs(), 1 << 2 | 1 << 3);
        x.year(1);
        due.is("count(3)", x.count(3), 1 << 3 | 1 << 5);
        due.is("hangs(), 3 being OUT", x.hangs(), 0);
        HookTies c = Due.commons(SIX + ";pan 0 1 9;pan 1 2 9;pan 3 2 9;pan 3 4 9");
        due.is("hangs(), a chain", c.hangs(), 1 << 1 | 1 << 2 | 1 << 3);
        HookTies y = Due.commons("house;house;pan 0 1 9");
        due.is("hangs(), two", y.hangs(), 0);
        HookTies z = Due.commons("house");
        due.is("hangs(), one", z.hangs(), 0);
        // A star of seven around 3.
        HookTies s = Due.commons(SIX + ";house;cap 3 0 9;cap 3 1 9;cap 2 3 9;cap 3 4 9;cap 5 3 9;cap 6 3 9");
        due.is("hangs(), a star", s.hangs(), 8);
        due.is("pieces(0)", s.pieces(0), 1);
    }

    private static void way() {
        due.about("promise 22");
        HookTies x = Due.commons(SIX + ";house;cap 0 1 2;cap 2 1 9;spoon 2 3 9;spoon 4 3 9;spoon 4 5 9;spoon 6 5 9;spoon 2 6 1;spoon 0 0 1");
        for (int h = 0; h < 7; h++) {
            due.is("way(h, h)", x.way(h, h), 0);
        }
        int[] from0 = {0, 1, 2, 3, 4, 4, 3};
        for (int h = 0; h < 7; h++) {
            due.is("way(0, " + h + ")", x.way(0, h), from0[h]);
            due.is("way(" + h + ", 0)", x.way(h, 0), from0[h]);
        }
        HookTies y = Due.commons(SIX + ";house;cap 0 1 2;cap 2 1 9;spoon 2 3 9;spoon 4 3 9;spoon 4 5 9;spoon 6 5 9");
        due.is("way(0, 6), as far as can be", y.way(0, 6), 6);
        due.is("way(6, 0)", y.way(6, 0), 6);
        x.year(1);
        due.is("count(3)", x.count(3), 1 | 1 << 2 | 1 << 4);
        due.is("way(0, 0), OUT", x.way(0, 0), Due.NONE);
        due.is("way(1, 0)", x.way(1, 0), Due.NONE);
        due.is("way(0, 1)", x.way(0, 1), Due.NONE);
        due.is("way(1, 3)", x.way(1, 3), Due.NONE);
        due.is("way(1, 1)", x.way(1, 1), 0);
        due.refused(x, "way(7, 0)", () -> x.way(7, 0), Due.UNKNOWN);
        due.refused(x, "way(0, 7)", () -> x.way(0, 7), Due.UNKNOWN);
        due.refused(x, "way(-1, 0)", () -> x.way(-1, 0), Due.UNKNOWN);
        due.refused(x, "way(0, -1)", () -> x.way(0, -1), Due.UNKNOWN);
    }

    private static void knitIs(HookTies x, int many, int thing0, int thing1, int house0, int house1) {
        String before = Look.at(x);
        due.is("knit(NONE)", x.knit(Due.NONE), many);
        due.is("knit(0)", x.knit(0), thing0);
        due.is("knit(1)", x.knit(1), thing1);
        due.is("knit(2)", x.knit(2), house0);
        due.is("knit(3)", x.knit(3), house1);
        due.holds("nothing changed", before.equals(Look.at(x)));
    }

    private static void knit() {
        due.about("promise 23");
        knitIs(new HookTies(), 0, -1, -1, -1, -1);
        knitIs(Due.commons("house"), 0, -1, -1, -1, -1);
        knitIs(Due.commons("house;house"), -1, -1, -1, -1, -1);
        knitIs(Due.commons("house;house;pan 0 1 9"), 0, -1, -1, -1, -1);
        knitIs(Due.commons("house;house;pan 0 0 9"), 1, 0, -1, 1, -1);
        knitIs(Due.commons("house;house;house;pan 0 0 9;pan 0 0 9"), 2, 0, 1, 1, 2);
        // The first thing must not move (it links 0 and 1); of the others the lesser, to its lesser house.
        knitIs(Due.commons("house;house;house;pan 0 1 9;pan 2 2 9;pan 2 2 9"), 1, 1, -1, 0, -1);
        // The pan may be sent though 1 is not tied then.
        knitIs(Due.commons("house;house;house;spoon 0 1 9;pan 1 0 9"), 1, 0, -1, 2, -1);
        knitIs(Due.commons("house;house;house;house;pan 0 0 9;pan 0 0 9;pan 0 0 9"), -1, -1, -1, -1, -1);
        HookTies x = new HookTies();
        due.refused(x, "knit(-2)", () -> x.knit(-2), Due.OUTSIDE);
        due.refused(x, "knit(4)", () -> x.knit(4), Due.OUTSIDE);
    }

    private static void knitEdges() {
        due.about("promise 23, edges");
        // 4 leaves; its spoon at 0 links nobody, wherever it is sent, and nothing is sent to it.
        HookTies x = Due.commons("house;house;house;house;house;spoon 4 0 9;spoon 0 1 9;spoon 1 0 9;spoon 2 3 9;spoon 3 2 9;pan 3 3 1");
        x.year(1);
        due.is("count(3)", x.count(3), 16);
        due.is("count(6)", x.count(6), 1 << 5);
        knitIs(x, 1, 1, -1, 2, -1);
        // All of one piece but for two that need both things.
        HookTies y = Due.commons("house;house;house;house;spoon 0 1 9;spoon 2 2 9;spoon 3 3 9");
        knitIs(y, 2, 1, 2, 0, 0);
        HookTies z = Due.commons("house;house;house;spoon 0 0 9");
        knitIs(z, -1, -1, -1, -1, -1);
    }

    private static void wholeIs(HookTies x, int q, int above, int below) {
        due.is("whole(" + q + ", 0)", x.whole(q, 0), above);
        due.is("whole(" + q + ", 1)", x.whole(q, 1), below);
    }

    private static void whole() {
        due.about("promise 24");
        HookTies x = Due.commons("house;house;pan 0 1 9");
        wholeIs(x, 0, 1, 1);
        wholeIs(x, 1, 3, 4);
        wholeIs(x, 2, 1, 2);
        wholeIs(x, 3, 1, 4);
        wholeIs(x, 4, 0, 1);
        HookTies y = Due.commons("house;house;pan 0 1 9;pan 1 0 9;pan 0 0 9");
        wholeIs(y, 1, 15, 16);
        wholeIs(y, 2, 3, 4);
        wholeIs(y, 3, 7, 16);
        // A ring of three stays one, if at most one is stolen: 27 + 27 of 64; 1 + 3 of 8; 1 + 9 of 64.
        HookTies z = Due.commons("house;house;house;pan 0 1 9;pan 1 2 9;pan 2 0 9");
        wholeIs(z, 0, 1, 1);
        wholeIs(z, 1, 27, 32);
        wholeIs(z, 2, 1, 2);
        wholeIs(z, 3, 5, 32);
        wholeIs(z, 4, 0, 1);
    }

    private static void wholeEdges() {
        due.about("promise 24, edges");
        for (int q = 0; q <= 4; q++) {
            wholeIs(new HookTies(), q, 1, 1);
            wholeIs(Due.commons("house;pan 0 0 9"), q, 1, 1);
            wholeIs(Due.commons("house;house;pan 0 0 9"), q, 0, 1);
        }
        HookTies x = Due.commons("house;house" + ";pan 0 1 9".repeat(10));
        wholeIs(x, 3, 1048576 - 59049, 1048576);
        wholeIs(x, 2, 1023, 1024);
        wholeIs(x, 1, 1048575, 1048576);
        String before = Look.at(x);
        x.whole(2, 0);
        due.holds("nothing changed", before.equals(Look.at(x)));
        x.year(1);
        wholeIs(x, 4, 1, 1);
        due.refused(x, "whole(-1, 0)", () -> x.whole(-1, 0), Due.OUTSIDE);
        due.refused(x, "whole(5, 0)", () -> x.whole(5, 0), Due.OUTSIDE);
        due.refused(x, "whole(0, -1)", () -> x.whole(0, -1), Due.OUTSIDE);
        due.refused(x, "whole(0, 2)", () -> x.whole(0, 2), Due.OUTSIDE);
    }
}
