/** Each sentence on what was seen that names an edge (part 3 of the terms, promises 25 to 28), with a test of its own. */
public final class EdgeSeenTest {
    private static final Due due = new Due();

    public static void main(String[] args) {
        bounds();
        full();
        forget();
        kinds();
        kindsNone();
        ask();
        askNone();
        due.end();
    }

    private static void bounds() {
        due.about("promise 25: in n YEARS (1 .. 20) .. (home 1: AT its OWNER, 0) .. of d less WORTH (0 .. 99) .. OUTSIDE");
        Run.of(due, "", "seen(0,0,0)=OUTSIDE seen(21,0,0)=OUTSIDE seen(-1,0,0)=OUTSIDE seen(MIN,0,0)=OUTSIDE seen(MAX,0,0)=OUTSIDE",
            "seen(1,-1,0)=OUTSIDE seen(1,2,0)=OUTSIDE seen(1,MIN,0)=OUTSIDE seen(1,MAX,0)=OUTSIDE",
            "seen(1,0,-1)=OUTSIDE seen(1,0,100)=OUTSIDE seen(1,0,MIN)=OUTSIDE seen(1,0,MAX)=OUTSIDE count(7)=0 kinds()=31",
            "seen(1,0,0)=1 seen(20,0,0)=2 seen(1,1,0)=3 seen(20,1,99)=4 count(7)=4");
    }

    private static void full() {
        due.about("promise 25: SEEN, 6 at most: how many. OUTSIDE; FULL.");
        Run.of(due, "", "seen(1,0,2)=1 seen(2,0,4)=2 seen(3,0,6)=3 seen(4,0,8)=4 seen(5,0,10)=5 kinds()=20 seen(6,1,0)=6 kinds()=16",
            "seen(1,0,2)=FULL seen(1,0,99)=FULL seen(0,0,0)=OUTSIDE seen(1,2,0)=OUTSIDE seen(1,0,100)=OUTSIDE count(7)=6 kinds()=16 forget()=6 seen(1,0,2)=1");
    }

    private static void forget() {
        due.about("promise 26: SEEN is nothing: how many there were.");
        Run.of(due, "", "forget()=0 seen(1,0,99)=1 kinds()=0 forget()=1 forget()=0 count(7)=0 kinds()=31 ask()=10");
    }

    private static void kinds() {
        due.about("promise 27: KINDS (0 .. 4, by bits) by which all that is SEEN would be so");
        for (int n : new int[] {1, 2, 19, 20}) {
            seenSo(n, 0, 0, 2);
            seenSo(n, 0, n, 1);
            seenSo(n, 0, 2 * n, 20);
            seenSo(n, 0, 3 * n, 8);
            seenSo(n, 1, 0, 26);
            seenSo(n, 1, n, 1);
            seenSo(n, 1, 2 * n, 4);
            seenSo(n, 1, 3 * n, 0);
            seenSo(n, 0, 3 * n + 1, 0);
        }
    }

    private static void seenSo(int n, int home, int d, int kinds) {
        Run.of(due, "", "seen(" + n + "," + home + "," + d + ")=1 kinds()=" + kinds);
    }

    private static void kindsNone() {
        due.about("promise 27: all of them with nothing SEEN, none if no KIND would be so");
        Run.of(due, "", "kinds()=31 seen(1,0,1)=1 kinds()=1 seen(1,1,0)=2 kinds()=0");
        Run.of(due, "", "seen(20,0,99)=1 kinds()=0");
        // Each was of WORTH 99 at first: six times 60 less is not below 0.
        Run.of(due, "", "seen(20,0,60)=1 seen(20,0,60)=2 seen(20,0,60)=3 seen(20,0,60)=4 seen(20,0,60)=5 seen(20,0,60)=6 kinds()=8");
    }

    private static void ask() {
        due.about("promise 28: ASK: the greatest part that is alike is least; of like ones the least of 10 times n, and 1, if AT its OWNER");
        Run.of(due, "", "ask()=10");
        Run.of(due, "", "seen(2,0,4)=1 kinds()=20 ask()=11");
        Run.of(due, "", "seen(2,1,0)=1 kinds()=26 ask()=10");
    }

    private static void askNone() {
        due.about("promise 28: ASK; NONE (none parts them)");
        for (String one : new String[] {"seen(1,0,0)", "seen(1,0,1)", "seen(1,0,3)", "seen(1,1,1)", "seen(1,1,2)", "seen(1,1,3)"}) {
            Run.of(due, "", one + "=1 ask()=NONE");
        }
        Run.of(due, "", "seen(1,0,2)=1 seen(1,1,0)=2 kinds()=16 ask()=NONE");
    }
}
