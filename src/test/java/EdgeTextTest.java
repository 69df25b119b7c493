/** Each sentence on what is told that names an edge (part 1 of the terms, promises 1 to 5), with a test of its own. */
public final class EdgeTextTest {
    private static final Due due = new Due();
    private static final String SEVEN = "house;house;house;house;house;house;house";
    private static final String TEN = "house" + ";cap 0 0 1".repeat(10);
    private static final String MOST = "commons" + ";commons".repeat(23);

    public static void main(String[] args) {
        newObject();
        houses();
        things();
        letters();
        erased();
        clausesWithBreaks();
        mostClauses();
        words();
        commonsClause();
        eighthHouse();
        eleventhThing();
        worthTold();
        wantClause();
        toldAhead();
        numbers();
        blanks();
        tokens();
        tooSoon();
        firstFault();
        earlierTexts();
        inTheirOrder();
        behindThem();
        refusedText();
        due.end();
    }

    private static void newObject() {
        due.about("promise 1: No houses, no hooks.");
        Run.of(due, "", "count(0)=0 count(1)=0 count(2)=0 count(3)=0 count(4)=0 count(5)=0 count(6)=0 count(7)=0 count(8)=0",
            "count(9)=0 count(10)=0 house(0,0)=UNKNOWN thing(0,0)=UNKNOWN drop(0)=NULL drop(1)=NULL drop(2)=NULL",
            "undo()=NOT back(0)=NOT back(1)=NOT trade()=NOT fault()=0 commons()=NOT pieces(0)=0 rings()=0 hangs()=0",
            "knit(NONE)=0 whole(4,0)=1 whole(4,1)=1 kinds()=31 forget()=0 erase()=0 year(12)=12 keep(1)=12");
    }

    private static void houses() {
        due.about("HOUSES are 0, 1 .., 7 at most (none at first), each in, or OUT.");
        Run.of(due, "", "count(0)=0 house(0,0)=UNKNOWN");
        Run.of(due, "house", "count(0)=1 house(0,0)=0 house(1,0)=UNKNOWN house(-1,0)=UNKNOWN year(1)=1 house(0,0)=1");
        Run.of(due, SEVEN, "count(0)=7 house(6,0)=0 house(7,0)=UNKNOWN year(1)=1 house(6,0)=1 count(3)=127");
    }

    private static void things() {
        due.about("THINGS are 0, 1 .., 10 at most, of a KIND, 0 PAN, 1 SPOON, 2 PIPE, 3 SHOE, 4 CAP");
        Run.of(due, "house", "count(1)=0 thing(0,0)=UNKNOWN");
        Run.of(due, "house;pan 0 0 1", "count(1)=1 thing(0,0)=0 thing(1,0)=UNKNOWN thing(-1,0)=UNKNOWN");
        Run.of(due, TEN, "count(1)=10 thing(9,0)=4 thing(10,0)=UNKNOWN house(0,1)=1023 house(0,2)=1023");
        Run.of(due, "house;pan 0 0 1;spoon 0 0 1;pipe 0 0 1;shoe 0 0 1;cap 0 0 1",
            "thing(0,0)=0 thing(1,0)=1 thing(2,0)=2 thing(3,0)=3 thing(4,0)=4");
    }

    private static void letters() {
        due.about("promise 2: A letter (its number, 0 .. 255) more of THE TEXT: how many it has. OUTSIDE; FULL. (200 at most)");
        Run.of(due, "", "write(-1)=OUTSIDE write(256)=OUTSIDE write(MIN)=OUTSIDE write(MAX)=OUTSIDE write(0)=1 write(255)=2");
        Run.of(due, "", "'" + "x".repeat(199) + "'", "count(10)=199 write(104)=200 write(104)=FULL write(0)=FULL write(255)=FULL",
            "write(256)=OUTSIDE write(-1)=OUTSIDE count(10)=200 fault()=0 commons()=NOT erase()=200 write(104)=1");
        // As many letters as there can be are a text like any other.
        Run.of(due, "", "'" + " ".repeat(195) + "house'", "count(10)=200 fault()=NONE commons()=1 count(0)=1 count(10)=0");
        Run.of(due, "", "'house" + " ".repeat(195) + "'", "count(10)=200 fault()=NONE commons()=1 write(1)=1");
        Run.of(due, "", "'house;" + " ".repeat(190) + "pan '", "count(10)=200 fault()=200 write(48)=FULL commons()=NOT");
        Run.of(due, "", "'house;" + " ".repeat(193) + "9'", "count(10)=200 fault()=199");
        Run.of(due, "", "'" + " ".repeat(200) + "'", "fault()=200 commons()=NOT");
    }

    private static void erased() {
        due.about("promise 3: THE TEXT is empty: how many letters it had.");
        Run.of(due, "", "erase()=0 count(10)=0 write(0)=1 erase()=1 erase()=0 fault()=0");
        Run.of(due, "house;house;spoon 0 1 9;spoon 1 0 9", "year(1)=1 'house' erase()=5 count(0)=2 count(2)=1 count(9)=1 fault()=0 commons()=NOT");
    }

    private static void clausesWithBreaks() {
        due.about("CLAUSES with ; between");
        Run.fault(due, "house;house", Due.NONE);
        Run.fault(due, ";", 0);
        Run.fault(due, ";house", 0);
        Run.fault(due, "house;;house", 6);
        Run.fault(due, "house ; ;house", 8);
        Run.fault(due, "house;house;", 12);
        Run.fault(due, "house house", 6);
        Run.fault(due, "house:house", 5);
        Run.fault(due, "house;pan 0 0 1 house", 16);
        Run.fault(due, "house;pan 0 0 1;want 0 0 house", 25);
        Run.fault(due, "commons commons", 8);
    }

    private static void mostClauses() {
        due.about("CLAUSES .., 24 at most");
        Run.fault(due, MOST.substring(8), Due.NONE);
        Run.fault(due, MOST, Due.NONE);
        Run.fault(due, MOST + " ", Due.NONE);
        Run.fault(due, MOST + ";commons", MOST.length());
        Run.fault(due, MOST + " ;", MOST.length() + 1);
        String others = SEVEN + ";commons;" + SEVEN + ";commons;" + SEVEN;
        Run.fault(due, others + ";commons", Due.NONE);
        Run.fault(due, others + ";pan 0 0 1;house", others.length() + 10);
        due.about("24 at most: of one text, not of all");
        Run.of(due, "", "'" + MOST + "' commons()=24 '" + MOST + "' fault()=NONE commons()=24 'house' commons()=1 count(0)=1");
    }

    private static void words() {
        due.about("each is one of: commons. house. pan O H W. .. want H T. (As written here, without points)");
        String[] words = {"commons", "house", "pan 0 0 1", "spoon 0 0 1", "pipe 0 0 1", "shoe 0 0 1", "cap 0 0 1"};
        for (String word : words) {
            Run.fault(due, "house;" + word, Due.NONE);
            Run.fault(due, "house;" + word + ".", word.length() + 6);
            Run.fault(due, "house;x" + word, 6);
            Run.fault(due, "house;" + word.substring(1), 6);
            Run.fault(due, "house;" + Character.toUpperCase(word.charAt(0)) + word.substring(1), 6);
        }
        for (String word : new String[] {"thing", "pans 0 0 1", "spoo 0 0 1", "caps 0 0 1", "pi 0 0 1", "shoes 0 0 1", "h", "houses", "common", "wan 0 0", "wants 0 0"}) {
            Run.fault(due, "house;pan 0 0 1;" + word, 16);
        }
        Run.fault(due, "house;pan 0 0 1;want 0 0.", 24);
        Run.fault(due, "house 0", 6);
        Run.fault(due, "commons 0", 8);
    }

    private static void commonsClause() {
        due.about("commons: all as at first");
        Run.of(due, "house;house;pan 0 1 9;want 1 0", "year(1)=1 'commons' commons()=1 count(0)=0 count(1)=0 count(2)=0 count(3)=0 count(5)=0",
            "house(0,0)=UNKNOWN thing(0,0)=UNKNOWN 'house;house;pan 1 0 3' commons()=3 house(1,4)=NONE thing(0,2)=3 count(1)=1");
        Run.of(due, "house;pan 0 0 9;want 0 0;commons;house;house", "count(0)=2 count(1)=0 house(0,4)=NONE");
        Run.of(due, SEVEN, "'commons;" + SEVEN + "' commons()=8 count(0)=7");
        // What was told ahead of it ties, links and is sent no more.
        Run.of(due, "house;house;pan 0 1 9;pan 0 1 9", "'commons;house;house;pan 0 1 9' commons()=4 send(0,0)=NOT house(1,1)=1 count(5)=9");
        Run.of(due, "house;house;pan 0 1 9;pan 0 1 9", "'commons;house;house;pan 0 0 9' commons()=4 count(4)=0 pieces(0)=2 way(0,1)=NONE whole(0,0)=0 hangs()=0 leaves(1)=1");
        Run.of(due, "house;house;pan 0 0 9;pan 0 0 9", "'commons;house;house;house;pan 0 0 9' commons()=5 knit(NONE)=NONE knit(0)=NONE");
        Run.of(due, TEN, "'commons;house;pan 0 0 7' commons()=3 count(1)=1 thing(0,0)=0 thing(0,2)=7");
    }

    private static void eighthHouse() {
        due.about("house: one more, an eighth cannot stand there (at its word)");
        Run.fault(due, SEVEN, Due.NONE);
        Run.fault(due, SEVEN + ";house", SEVEN.length() + 1);
        Run.fault(due, SEVEN + ";  house 1", SEVEN.length() + 3);
        Run.fault(due, SEVEN + ";pan 6 6 1", Due.NONE);
        Run.of(due, SEVEN, "'house' fault()=0 commons()=NOT count(0)=7");
        Run.of(due, "house;house;house;house;house;house", "'house' fault()=NONE erase()=5 'house;house' fault()=6 commons()=NOT count(0)=6");
    }

    private static void eleventhThing() {
        due.about("pan ..: a THING more .., an eleventh cannot");
        Run.fault(due, TEN, Due.NONE);
        for (String word : new String[] {"pan", "spoon", "pipe", "shoe", "cap"}) {
            Run.fault(due, TEN + ";" + word + " 0 0 1", TEN.length() + 1);
            Run.of(due, TEN, "'house;" + word + " 0 0 1' fault()=6 commons()=NOT count(0)=1 count(1)=10");
        }
        Run.fault(due, TEN + ";want 0 9", Due.NONE);
        Run.fault(due, TEN + ";want 0 10", TEN.length() + 8);
        Run.fault(due, TEN + ";house", Due.NONE);
    }

    private static void worthTold() {
        due.about("of HOUSE O, AT HOUSE H, of WORTH W, 1 to 99");
        Run.fault(due, "house;pan 0 0 0", 14);
        Run.fault(due, "house;pan 0 0 00", 14);
        Run.fault(due, "house;pan 0 0 100", 14);
        Run.of(due, "house;house;pan 0 1 1;cap 1 0 99;pipe 1 1 50", "thing(0,1)=0 thing(0,3)=1 thing(0,2)=1 thing(1,1)=1 thing(1,3)=0 thing(1,2)=99",
            "thing(2,1)=1 thing(2,3)=1 thing(2,2)=50 count(5)=150");
    }

    private static void wantClause() {
        due.about("want: HOUSE H WANTS THING T (in place of what it WANTED)");
        Run.of(due, "house;house;pan 0 0 1;pan 0 0 1;want 0 1;want 0 0;want 1 1", "house(0,4)=0 house(1,4)=1");
        Run.of(due, "house;house;pan 0 0 1;pan 0 0 1;want 0 1", "house(0,4)=1 house(1,4)=NONE 'want 0 0' commons()=1 house(0,4)=0 house(1,4)=NONE");
    }

    private static void toldAhead() {
        due.about("HOUSES, THINGS are told ahead");
        Run.fault(due, "pan 0 0 1", 4);
        Run.fault(due, "pan 0 0 1;house", 4);
        Run.fault(due, "house;pan 1 0 1;house", 10);
        Run.fault(due, "house;pan 0 1 1;house", 12);
        Run.fault(due, "want 0 0", 5);
        Run.fault(due, "house;want 0 0;pan 0 0 1", 13);
        Run.fault(due, "house;pan 0 0 1;want 1 0;house", 21);
        // No such house, though there is such a thing; and the other way round.
        Run.fault(due, "house;pan 0 0 1;pan 0 0 1;want 1 0", 31);
        Run.fault(due, "house;house;pan 0 0 1;want 0 1", 29);
        Run.fault(due, "house;pan 0 0 1;want 0 1;pan 0 0 1", 23);
        Run.fault(due, "house;house;pan 1 1 1;pan 0 1 1;want 1 1", Due.NONE);
        Run.of(due, "house;pan 0 0 1", "'want 0 0;pan 0 0 9' fault()=NONE commons()=2");
        Run.of(due, "house;pan 0 0 1", "'commons;want 0 0' fault()=13 erase()=16 'commons;pan 0 0 1' fault()=12 commons()=NOT count(0)=1");
    }

    private static void numbers() {
        due.about("numbers of 1 or 2 digits (a number out of its bounds, of more digits, also [cannot stand there])");
        Run.of(due, "house;pan 00 00 01", "thing(0,1)=0 thing(0,2)=1");
        Run.fault(due, "house;pan 000 0 1", 10);
        Run.fault(due, "house;pan 0 000 1", 12);
        Run.fault(due, "house;pan 0 0 001", 14);
        Run.fault(due, "house;pan 0 0 99999999999999999999", 14);
        // 4294967297 is 1, where it wraps around.
        Run.fault(due, "house;pan 0 0 4294967297", 14);
        Run.fault(due, "house;pan 0 0 9;want 000 0", 21);
        Run.fault(due, "house;pan 0 0 9;want 0 000", 23);
        Run.fault(due, SEVEN + ";pan 7 0 1", SEVEN.length() + 5);
        Run.fault(due, SEVEN + ";pan 0 7 1", SEVEN.length() + 7);
        Run.fault(due, SEVEN + ";pan 06 06 1;want 6 0", Due.NONE);
        Run.fault(due, "house;pan -1 0 1", 10);
        Run.fault(due, "house;pan +0 0 1", 10);
        Run.fault(due, "house;pan 0 0 1.5", 15);
        Run.fault(due, "house;pan a 0 1", 10);
    }

    private static void blanks() {
        due.about("blanks between");
        Run.fault(due, "   house   ;   pan   0   0   9   ", Due.NONE);
        Run.fault(due, "house;pan 0 0 9", Due.NONE);
        Run.fault(due, "house;pan 00 0", 14);
        Run.fault(due, "ho use", 0);
        Run.fault(due, "house;pan 0 0 1 1", 16);
        Run.fault(due, "house;pan 0 0 9want 0 0", 15);
        for (int letter : new int[] {0, 9, 10, 13, 31, 33, 160, 255}) {
            Run.fault(due, "house;pan" + (char) letter + "0 0 9", 9);
            Run.fault(due, (char) letter + "house", 0);
            Run.fault(due, "house" + (char) letter, 5);
        }
    }

    private static void tokens() {
        due.about("TOKEN (a row of small letters, a row of digits, any other letter)");
        for (char letter : new char[] {'`', '{', '@', 'A', 'Z', '[', '/', ':', (char) 0, (char) 127, (char) 128, (char) 233}) {
            Run.fault(due, "house;" + letter + "house", 6);
            Run.fault(due, "house" + letter + "house", 5);
            Run.fault(due, "house;pan 0 0 9" + letter + "9", 15);
        }
        Run.fault(due, "house;12", 6);
        Run.fault(due, "house9", 5);
        Run.fault(due, "house;pan 0 0x 9", 13);
        Run.fault(due, "house;,,", 6);
        Run.fault(due, "hoUse", 0);
        // The first and the last of small letters, and of digits, are of the row.
        for (char letter : new char[] {'a', 'z'}) {
            Run.fault(due, "house" + letter, 0);
            Run.fault(due, letter + "house", 0);
            Run.fault(due, "house;pan 0 0 9" + letter, 15);
        }
        for (char digit : new char[] {'0', '9'}) {
            Run.fault(due, "house;pan 0 0 " + digit + "9" + digit, 14);
            Run.fault(due, "house;pan 0 0 1" + digit, Due.NONE);
        }
    }

    private static void tooSoon() {
        due.about("or at the end, if it comes too soon (or the length)");
        Run.fault(due, "", 0);
        Run.fault(due, " ", 1);
        Run.fault(due, "house;", 6);
        Run.fault(due, "house;  ", 8);
        Run.fault(due, "house;pan", 9);
        Run.fault(due, "house;pan ", 10);
        Run.fault(due, "house;pan 0", 11);
        Run.fault(due, "house;pan 0 0", 13);
        Run.fault(due, "house;pan 0 0 ", 14);
        Run.fault(due, "house;pan 0 0 1;want", 20);
        Run.fault(due, "house;pan 0 0 1;want 0", 22);
        Run.fault(due, "house;pan 0;house", 11);
        Run.fault(due, "house;pan;house", 9);
        Run.fault(due, "house;pan 0 0;house", 13);
    }

    private static void firstFault() {
        due.about("promise 4: The place of the FAULT (the first TOKEN); NONE.");
        Run.fault(due, "house;pan 5 5 0", 10);
        Run.fault(due, "house;pan 0 5 0", 12);
        Run.fault(due, "x;y;z", 0);
        Run.fault(due, "house;want 7 7", 11);
        Run.of(due, "", "fault()=0 'ho' fault()=0 'use' fault()=NONE fault()=NONE ';' fault()=6 'pan' fault()=9 ' 0 0 5' fault()=NONE commons()=2");
    }

    private static void earlierTexts() {
        due.about("what earlier texts told stays as it was told");
        Run.of(due, "house;house;pan 0 1 9;spoon 1 0 5;want 0 0", "year(2)=2 patch(1,20)=25 send(0,0)=NOT want(0,1)=0 want(1,0)=NONE",
            "'pan 1 1 3' commons()=1 count(0)=2 count(1)=3 thing(0,2)=9 thing(0,3)=1 thing(1,2)=5 thing(2,2)=3 house(0,4)=0 house(1,4)=NONE");
        Run.of(due, "house;house;pan 0 1 2", "year(2)=2 count(3)=3 thing(0,3)=NONE 'house' commons()=1 thing(0,3)=1 thing(0,2)=2 count(3)=0 count(0)=3");
        Run.of(due, "house;house;spoon 0 0 9;spoon 1 1 9;want 0 1;want 1 0", "trade()=2 'house' commons()=1 thing(0,3)=0 thing(1,3)=1 trade()=2");
        Run.of(due, "house;house;spoon 0 1 9", "year(1)=1 keep(0)=1 year(1)=2 back(0)=1 'house' commons()=1 count(2)=0 count(3)=0");
    }

    private static void inTheirOrder() {
        due.about("CLAUSES are done in their order.");
        Run.of(due, "house;pan 0 0 1;house;pan 1 0 2;commons;house;cap 0 0 3;house;shoe 1 0 4",
            "count(0)=2 count(1)=2 thing(0,0)=4 thing(0,2)=3 thing(1,0)=3 thing(1,1)=1 thing(1,2)=4");
        Run.of(due, "house;pan 0 0 1;pan 0 0 1;want 0 0;want 0 1", "house(0,4)=1");
        Run.of(due, "house;pan 0 0 1;pan 0 0 1;want 0 1;want 0 0", "house(0,4)=0");
    }

    private static void behindThem() {
        due.about("Behind them all is as told, nobody is OUT, it is YEAR 0, nothing is SEEN, nothing is kept or can be undone; HOOKS are all missing.");
        String deeds = "year(3)=3 count(3)=1 patch(0,1)=7 keep(0)=3 keep(1)=3 seen(1,1,1)=1 seen(2,0,2)=2 hooks(0,3)=3 hooks(1,0)=0 hooks(2,12)=12 hang(0,0,1,0)=1";
        String empty = "count(2)=0 count(3)=0 count(7)=0 count(8)=0 count(9)=0 undo()=NOT back(0)=NOT back(1)=NOT kinds()=31 ask()=10"
            + " drop(0)=NULL drop(1)=NULL drop(2)=NULL find(0,1,0)=NULL thing(0,2)=9 house(0,0)=0";
        Run.of(due, "house;house;pan 0 1 9", deeds, "'house' commons()=1", empty);
        Run.of(due, "house;house;pan 0 1 9", deeds, "'want 0 0' commons()=1", empty);
        Run.of(due, "house;house;pan 0 1 9", deeds, "'commons;house;house;pan 0 1 9' commons()=4", empty);
    }

    private static void refusedText() {
        due.about("promise 5: .. how many there were. NOT: it has a FAULT.");
        Run.of(due, "house;house;spoon 0 1 9;spoon 1 0 9", "year(3)=3 keep(0)=3 seen(1,1,1)=1 hooks(0,3)=3 hang(0,0,1,0)=1 want(0,1)=NONE",
            "commons()=NOT 'house;house;hous' commons()=NOT count(10)=16 count(0)=2 count(2)=3 count(7)=1 count(8)=1 count(9)=1 house(0,4)=1",
            "'e' commons()=3 count(0)=5 count(2)=0 count(10)=0 commons()=NOT");
    }
}
