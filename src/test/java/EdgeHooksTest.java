/** Each sentence on hooks that names an edge (part 4 of the terms, promises 29 to 34), with a test of its own. */
public final class EdgeHooksTest {
    private static final Due due = new Due();
    private static final String TEXT = "house;house;spoon 0 1 9;spoon 1 0 9;pan 0 1 1";
    private static final String MIXED = "hooks(0,5)=5 hang(0,0,0,-9999)=1 hang(0,1,1,2)=2 hang(0,2,2,25)=3 hang(0,3,0,9999)=4 ";

    public static void main(String[] args) {
        missing();
        hooksBounds();
        hooksNew();
        hangUnknown();
        hangOutside();
        hangIndex();
        hangRoom();
        hangShifts();
        unhangRefused();
        unhangCast();
        unhangShifts();
        findFirst();
        findRefused();
        joinRefused();
        joinRoom();
        joinSame();
        drop();
        firstInOrder();
        due.end();
    }

    private static void missing() {
        due.about("HOOKS 0 .. 2 are missing (at first): NULL");
        for (int r = 0; r < 3; r++) {
            Run.of(due, TEXT, "hang(R,0,0,0)=NULL unhang(R,0,0)=NULL find(R,0,0)=NULL join(R,R)=NULL drop(R)=NULL count(8)=0 hooks(R,1)=1 drop(R)=0 drop(R)=NULL".replace('R', (char) ('0' + r)));
        }
    }

    private static void hooksBounds() {
        due.about("promise 29: (room for 0 to 12) n. UNKNOWN; OUTSIDE (n above 12); SIZE (fewer than none).");
        Run.of(due, TEXT, "hooks(0,0)=0 hooks(0,12)=12 hooks(0,13)=OUTSIDE hooks(0,MAX)=OUTSIDE hooks(0,-1)=SIZE hooks(0,MIN)=SIZE",
            "hooks(3,1)=UNKNOWN hooks(-1,1)=UNKNOWN hooks(3,13)=UNKNOWN hooks(3,-1)=UNKNOWN hooks(MIN,MIN)=UNKNOWN hooks(MAX,MAX)=UNKNOWN hooks(2,1)=1");
        Run.of(due, TEXT, "hooks(1,13)=OUTSIDE hooks(1,-1)=SIZE drop(1)=NULL");
    }

    private static void hooksNew() {
        due.about("promise 29: HOOKS are new ones .., on which nothing hangs");
        Run.of(due, TEXT, MIXED, "hooks(0,-1)=SIZE hooks(0,13)=OUTSIDE count(8)=4 hooks(0,5)=5 count(8)=0 find(0,1,2)=NONE unhang(0,0,0)=INDEX hooks(0,1)=1 hang(0,0,0,7)=1 hang(0,0,0,7)=ROOM",
            "hooks(0,2)=2 hang(0,0,0,7)=1 hang(0,0,0,7)=2 hang(0,0,0,7)=ROOM drop(0)=2");
    }

    private static void hangUnknown() {
        due.about("promise 30: UNKNOWN (HOOKS; by what 1 the THING)");
        Run.of(due, TEXT, "hooks(0,12)=12 hang(3,0,0,0)=UNKNOWN hang(-1,0,0,0)=UNKNOWN hang(MIN,0,0,0)=UNKNOWN hang(MAX,0,0,0)=UNKNOWN",
            "hang(0,0,1,3)=UNKNOWN hang(0,0,1,-1)=UNKNOWN hang(0,0,1,MIN)=UNKNOWN hang(0,0,1,MAX)=UNKNOWN hang(0,0,1,0)=1 hang(0,0,1,2)=2 hang(0,0,0,3)=3 hang(0,0,2,3)=4");
        Run.of(due, "", "hooks(0,1)=1 hang(0,0,1,0)=UNKNOWN find(0,1,0)=UNKNOWN hang(0,0,0,0)=1");
    }

    private static void hangOutside() {
        due.about("promise 30: a number (-9999 .. 9999), a MARK (0 .. 25): OUTSIDE (what; the number, the MARK)");
        Run.of(due, TEXT, "hooks(0,12)=12 hang(0,0,-1,0)=OUTSIDE hang(0,0,3,0)=OUTSIDE hang(0,0,MIN,0)=OUTSIDE hang(0,0,MAX,0)=OUTSIDE",
            "hang(0,0,0,10000)=OUTSIDE hang(0,0,0,-10000)=OUTSIDE hang(0,0,0,MIN)=OUTSIDE hang(0,0,0,MAX)=OUTSIDE",
            "hang(0,0,2,26)=OUTSIDE hang(0,0,2,-1)=OUTSIDE hang(0,0,2,MIN)=OUTSIDE hang(0,0,2,MAX)=OUTSIDE count(8)=0",
            "hang(0,0,0,9999)=1 hang(0,1,0,-9999)=2 hang(0,2,2,25)=3 hang(0,3,2,0)=4 unhang(0,0,0)=59999 unhang(0,0,0)=40001 unhang(0,0,2)=25 unhang(0,0,2)=0");
    }

    private static void hangIndex() {
        due.about("promise 30: at place i (0 to how many hang there) .. INDEX (too far behind, or fewer than none)");
        Run.of(due, TEXT, "hooks(0,12)=12 hang(0,1,0,1)=INDEX hang(0,-1,0,1)=INDEX hang(0,0,0,1)=1 hang(0,2,0,1)=INDEX hang(0,1,0,2)=2 hang(0,3,0,1)=INDEX hang(0,12,0,1)=INDEX",
            "hang(0,MIN,0,1)=INDEX hang(0,MAX,0,1)=INDEX hang(0,2,0,3)=3 count(8)=3");
    }

    private static void hangRoom() {
        due.about("promise 30: ROOM (there is no more room)");
        Run.of(due, TEXT, "hooks(0,0)=0 hang(0,0,0,1)=ROOM hang(0,1,0,1)=INDEX hooks(1,1)=1 hang(1,0,0,1)=1 hang(1,0,0,2)=ROOM hang(1,1,0,2)=ROOM hang(1,2,0,2)=INDEX unhang(1,0,0)=50001 hang(1,0,2,2)=1");
        Run.of(due, TEXT, "hooks(2,12)=12 hang(2,0,0,1)=1 hang(2,0,0,2)=2 hang(2,0,0,3)=3 join(2,2)=6 hang(2,6,0,4)=7 hang(2,0,0,5)=8 hang(2,8,0,5)=9 hang(2,9,0,5)=10 hang(2,10,0,5)=11",
            "hang(2,11,0,6)=12 hang(2,12,0,7)=ROOM hang(2,0,0,7)=ROOM hang(2,13,0,7)=INDEX find(2,0,6)=11 find(2,0,1)=3 unhang(2,11,0)=50006 hang(2,0,2,7)=12 find(2,0,1)=4");
    }

    private static void hangShifts() {
        due.about("promise 30: those from there on one place farther");
        Run.of(due, TEXT, MIXED, "hang(0,1,2,7)=5 find(0,0,-9999)=0 find(0,2,7)=1 find(0,1,2)=2 find(0,2,25)=3 find(0,0,9999)=4");
        Run.of(due, TEXT, MIXED, "hang(0,0,2,7)=5 find(0,2,7)=0 find(0,0,-9999)=1 find(0,0,9999)=4");
        Run.of(due, TEXT, MIXED, "hang(0,4,2,7)=5 find(0,2,7)=4 find(0,0,9999)=3");
    }

    private static void unhangRefused() {
        due.about("promise 31: UNKNOWN; OUTSIDE; NULL; INDEX (a place where nothing hangs .., or fewer than none)");
        Run.of(due, TEXT, MIXED, "unhang(3,0,0)=UNKNOWN unhang(-1,0,0)=UNKNOWN unhang(MIN,0,0)=UNKNOWN unhang(MAX,0,0)=UNKNOWN unhang(0,0,-1)=OUTSIDE unhang(0,0,3)=OUTSIDE unhang(0,0,MIN)=OUTSIDE unhang(0,0,MAX)=OUTSIDE",
            "unhang(1,0,0)=NULL unhang(0,4,0)=INDEX unhang(0,-1,0)=INDEX unhang(0,5,0)=INDEX unhang(0,MIN,0)=INDEX unhang(0,MAX,0)=INDEX unhang(0,3,0)=59999 unhang(0,3,0)=INDEX");
        Run.of(due, TEXT, "hooks(0,12)=12 unhang(0,0,0)=INDEX unhang(0,0,1)=INDEX hooks(1,0)=0 unhang(1,0,2)=INDEX");
    }

    private static void unhangCast() {
        due.about("promise 31: CAST (something else hangs there)");
        Run.of(due, TEXT, MIXED, "unhang(0,0,1)=CAST unhang(0,0,2)=CAST unhang(0,1,0)=CAST unhang(0,1,2)=CAST unhang(0,2,0)=CAST unhang(0,2,1)=CAST unhang(0,3,1)=CAST unhang(0,3,2)=CAST count(8)=4");
        // The same number, as each of the three, is not the same.
        Run.of(due, TEXT, "hooks(0,3)=3 hang(0,0,0,2)=1 hang(0,1,1,2)=2 hang(0,2,2,2)=3 unhang(0,0,1)=CAST unhang(0,1,2)=CAST unhang(0,2,0)=CAST find(0,0,2)=0 find(0,1,2)=1 find(0,2,2)=2");
    }

    private static void unhangShifts() {
        due.about("promise 31: comes off, those behind it one place nearer: that number, and 50000 more; the THING; the MARK");
        Run.of(due, TEXT, MIXED, "unhang(0,1,1)=2 find(0,0,-9999)=0 find(0,2,25)=1 find(0,0,9999)=2 find(0,1,2)=NONE unhang(0,0,0)=40001 unhang(0,0,2)=25 unhang(0,0,0)=59999 count(8)=0");
        Run.of(due, TEXT, "hooks(0,1)=1 hang(0,0,0,0)=1 unhang(0,0,0)=50000 hang(0,0,0,-1)=1 unhang(0,0,0)=49999");
        Run.of(due, TEXT, "hooks(0,12)=12 hang(0,0,0,1)=1 hang(0,0,0,2)=2 hang(0,0,0,3)=3 join(0,0)=6 join(0,0)=12 unhang(0,0,0)=50003 count(8)=11 find(0,0,3)=2 find(0,0,1)=1 unhang(0,11,0)=INDEX unhang(0,10,0)=50001");
    }

    private static void findFirst() {
        due.about("promise 32: The first place at which such a one hangs; NONE.");
        Run.of(due, TEXT, "hooks(0,12)=12 find(0,0,0)=NONE find(0,1,0)=NONE find(0,2,0)=NONE hang(0,0,2,1)=1 hang(0,1,2,2)=2 hang(0,2,2,1)=3 find(0,2,1)=0 find(0,2,2)=1 find(0,2,0)=NONE find(0,0,1)=NONE find(0,1,1)=NONE");
        // What came off, and what hung on earlier hooks, is not found behind the last.
        Run.of(due, TEXT, "hooks(0,2)=2 hang(0,0,0,1)=1 hang(0,1,0,2)=2 unhang(0,1,0)=50002 find(0,0,2)=NONE hooks(0,2)=2 find(0,0,1)=NONE");
    }

    private static void findRefused() {
        due.about("promise 32: UNKNOWN, OUTSIDE (likewise); NULL.");
        Run.of(due, TEXT, MIXED, "find(3,0,0)=UNKNOWN find(-1,0,0)=UNKNOWN find(MIN,0,0)=UNKNOWN find(MAX,0,0)=UNKNOWN find(0,1,3)=UNKNOWN find(0,1,-1)=UNKNOWN find(0,1,MIN)=UNKNOWN find(0,1,MAX)=UNKNOWN",
            "find(0,-1,0)=OUTSIDE find(0,3,0)=OUTSIDE find(0,MIN,0)=OUTSIDE find(0,MAX,0)=OUTSIDE find(0,0,10000)=OUTSIDE find(0,0,-10000)=OUTSIDE find(0,0,MIN)=OUTSIDE find(0,0,MAX)=OUTSIDE",
            "find(0,2,26)=OUTSIDE find(0,2,-1)=OUTSIDE find(0,2,MIN)=OUTSIDE find(0,2,MAX)=OUTSIDE find(1,0,0)=NULL find(0,0,9999)=3 find(0,0,-9999)=0 find(0,2,0)=NONE find(0,2,25)=2");
    }

    private static void joinRefused() {
        due.about("promise 33: UNKNOWN; NULL (either)");
        Run.of(due, TEXT, MIXED, "join(0,3)=UNKNOWN join(3,0)=UNKNOWN join(-1,0)=UNKNOWN join(0,-1)=UNKNOWN join(MIN,MAX)=UNKNOWN join(1,3)=UNKNOWN join(3,1)=UNKNOWN",
            "join(0,1)=NULL join(1,0)=NULL join(1,1)=NULL join(1,2)=NULL count(8)=4");
    }

    private static void joinRoom() {
        due.about("promise 33: ROOM: not a part of them hangs there, if not all can");
        Run.of(due, TEXT, MIXED, "hooks(1,3)=3 hooks(2,4)=4 join(1,0)=ROOM count(8)=4 find(1,0,-9999)=NONE join(2,0)=4 join(2,0)=ROOM find(2,0,9999)=3 find(0,0,9999)=3 join(0,2)=ROOM",
            "hooks(1,0)=0 join(0,1)=4 join(2,1)=4 join(1,1)=0 join(1,0)=ROOM");
        // What counts is what hangs, not for how many there is room.
        Run.of(due, TEXT, "hooks(0,1)=1 hooks(1,12)=12 join(0,1)=0 hang(1,0,0,5)=1 join(0,1)=1 join(0,1)=ROOM join(1,0)=2");
    }

    private static void joinSame() {
        due.about("promise 33: on other ones (or the same) behind all that hangs there, too");
        Run.of(due, TEXT, "hooks(0,6)=6 hang(0,0,0,1)=1 hang(0,1,1,1)=2 hang(0,2,2,1)=3 join(0,0)=6 join(0,0)=ROOM unhang(0,3,0)=50001 unhang(0,3,1)=1 unhang(0,3,2)=1 unhang(0,0,0)=50001 unhang(0,0,1)=1 unhang(0,0,2)=1 join(0,0)=0");
        Run.of(due, TEXT, "hooks(0,5)=5 hang(0,0,0,1)=1 hang(0,1,1,1)=2 hang(0,2,2,1)=3 join(0,0)=ROOM count(8)=3");
        // From then on each is by itself.
        Run.of(due, TEXT, "hooks(0,2)=2 hooks(1,2)=2 hang(1,0,2,4)=1 join(0,1)=1 unhang(1,0,2)=4 find(0,2,4)=0 hang(0,1,2,5)=2 find(1,2,5)=NONE count(8)=2");
    }

    private static void drop() {
        due.about("promise 34: HOOKS are missing from now on: how many hung there. UNKNOWN; NULL.");
        Run.of(due, TEXT, MIXED, "drop(3)=UNKNOWN drop(-1)=UNKNOWN drop(MIN)=UNKNOWN drop(MAX)=UNKNOWN drop(1)=NULL drop(0)=4 drop(0)=NULL count(8)=0 hang(0,0,0,0)=NULL find(0,0,0)=NULL unhang(0,0,0)=NULL join(0,0)=NULL hooks(0,2)=2 drop(0)=0");
    }

    private static void firstInOrder() {
        due.about("UNKNOWN, OUTSIDE, NOT, FULL, then what the machine finds (NULL, INDEX, CAST, ROOM, SIZE): the first of these that fits");
        Run.of(due, TEXT, "hang(3,9,3,0)=UNKNOWN hang(3,0,0,10000)=UNKNOWN hang(0,9,1,3)=UNKNOWN hang(0,9,3,0)=OUTSIDE hang(0,-1,0,10000)=OUTSIDE hang(0,9,2,26)=OUTSIDE hang(0,9,0,0)=NULL",
            "hooks(0,1)=1 hang(0,0,0,1)=1 hang(0,9,1,3)=UNKNOWN hang(0,9,3,0)=OUTSIDE hang(0,2,0,0)=INDEX hang(0,-1,0,0)=INDEX hang(0,1,0,0)=ROOM");
        Run.of(due, TEXT, "unhang(3,0,3)=UNKNOWN unhang(0,-1,3)=OUTSIDE unhang(0,-1,1)=NULL hooks(0,1)=1 hang(0,0,0,1)=1 unhang(0,1,1)=INDEX unhang(0,-1,2)=INDEX unhang(0,0,1)=CAST unhang(0,9,3)=OUTSIDE");
        Run.of(due, TEXT, "find(3,3,0)=UNKNOWN find(3,0,10000)=UNKNOWN find(0,1,3)=UNKNOWN find(0,3,3)=OUTSIDE find(0,0,10000)=OUTSIDE find(0,0,0)=NULL");
        Run.of(due, TEXT, "hooks(0,1)=1 hang(0,0,0,1)=1 join(0,3)=UNKNOWN join(0,1)=NULL join(0,0)=ROOM join(1,3)=UNKNOWN");
    }
}
