import java.util.Arrays;

/** A commons of houses that keep things of one another; ../shared/DOC.md promises what each call answers. */
public final class HookTies {
    public static final int NONE = -1, UNKNOWN = -2, OUTSIDE = -3, NOT = -4, FULL = -5, NULL = -11, INDEX = -12, CAST = -13, ROOM = -14, SIZE = -15;

    private static final int MOST_HOUSES = 7;
    private static final int MOST_THINGS = 10;
    private static final int MOST_LETTERS = 200;
    private static final int MOST_CLAUSES = 24;
    private static final int MOST_WORTH = 99;
    private static final int MOST_YEARS_AT_ONCE = 12;
    private static final int LAST_YEAR = 999;
    private static final int MOST_FORETOLD = 60;
    private static final int MOST_PAST = 8;
    private static final int MOST_KEPT = 2;
    private static final int MOST_SENT_TO_KNIT = 2;
    private static final int MOST_SEEN = 6;
    private static final int MOST_YEARS_SEEN = 20;
    private static final int MOST_YEARS_ASKED = 3;
    private static final int MOST_HOOKS = 3;
    private static final int MOST_ROOM = 12;
    private static final int MOST_NUMBER = 9999;
    private static final int MOST_MARK = 25;
    private static final int NUMBER_SHIFT = 50000;

    private static final int PAN = 0, SPOON = 1, PIPE = 2, SHOE = 3, CAP = 4, KINDS = 5;
    // By KIND. SPOON and CAP are 1 below PAN and SHOE, PIPE is twice PAN; a CAP at home would be below 0.
    private static final int[] WEARS_AWAY = {1, 0, 2, 3, 2};
    private static final int[] WEARS_HOME = {1, 0, 2, 0, 0};
    // By rank, as KINDS are over one another: THING, PAN, SPOON, PIPE, SHOE, CAP; a KIND's own rank is 1 more.
    private static final int[] RANK_ABOVE = {NONE, 0, 1, 1, 0, 4};
    private static final int RANKS = 6;

    private static final int AS_NUMBER = 0, AS_THING = 1, AS_MARK = 2;

    private final Told told = new Told();
    private final Told draft = new Told();
    private final State now = new State();
    private final State ahead = new State();
    private final State[] past = new State[MOST_PAST];
    private int pastCount = 0;
    private final State[] kept = new State[MOST_KEPT];
    private final boolean[] isKept = new boolean[MOST_KEPT];
    private final int[] wants = new int[MOST_HOUSES];
    private final Text text = new Text();
    private final Net net = new Net();
    private final int[] knitThings = new int[MOST_SENT_TO_KNIT];
    private final int[] knitHouses = new int[MOST_SENT_TO_KNIT];
    private final Sights sights = new Sights();
    private final Rack[] racks = new Rack[MOST_HOOKS];

    public HookTies() {
        for (int i = 0; i < MOST_PAST; i++) {
            past[i] = new State();
        }
        for (int i = 0; i < MOST_KEPT; i++) {
            kept[i] = new State();
        }
        for (int i = 0; i < MOST_HOOKS; i++) {
            racks[i] = new Rack();
        }
        beginAsTold();
    }

    // ---- what is told

    public int write(int letter) {
        if (letter < 0 || letter > 255) {
            return OUTSIDE;
        }
        if (text.length >= MOST_LETTERS) {
            return FULL;
        }
        text.letters[text.length] = (char) letter;
        text.length++;
        return text.length;
    }

    public int erase() {
        int had = text.length;
        text.length = 0;
        return had;
    }

    public int fault() {
        draft.copyFrom(told);
        return text.readInto(draft);
    }

    public int commons() {
        draft.copyFrom(told);
        if (text.readInto(draft) != NONE) {
            return NOT;
        }
        told.copyFrom(draft);
        text.length = 0;
        beginAsTold();
        return text.clauses;
    }

    public int house(int house, int what) {
        if (!isHouse(house)) {
            return UNKNOWN;
        }
        switch (what) {
            case 0:
                return bitOf(now.out, house);
            case 1:
                return thingsWhere(now.at, house);
            case 2:
                return thingsWhere(told.owner, house);
            case 3:
                return bitOf(now.tied(told), house);
            case 4:
                return wants[house];
            default:
                return OUTSIDE;
        }
    }

    public int thing(int thing, int what) {
        if (!isThing(thing)) {
            return UNKNOWN;
        }
        switch (what) {
            case 0:
                return told.kind[thing];
            case 1:
                return told.owner[thing];
            case 2:
                return now.worth[thing];
            case 3:
                return now.at[thing];
            case 4:
                return now.wearOf(told, thing);
            default:
                return OUTSIDE;
        }
    }

    public int as(int thing, int kind) {
        if (!isThing(thing)) {
            return UNKNOWN;
        }
        if (kind < 0 || kind >= RANKS) {
            return OUTSIDE;
        }
        if (!isUnder(told.kind[thing] + 1, kind)) {
            return NOT;
        }
        // Taken as a KIND above its own it stays what it is, and wears as such.
        return wearBy(told.kind[thing], false);
    }

    public int want(int house, int thing) {
        if (!isHouse(house) || (thing != NONE && !isThing(thing))) {
            return UNKNOWN;
        }
        int wanted = wants[house];
        wants[house] = thing;
        return wanted;
    }

    // ---- what is done

    public int year(int n) {
        if (n < 1 || n > MOST_YEARS_AT_ONCE) {
            return OUTSIDE;
        }
        if (now.year + n > LAST_YEAR) {
            return FULL;
        }
        remember();
        now.passYears(told, n);
        return now.year;
    }

    public int send(int thing, int house) {
        if (!isThing(thing) || !isHouse(house)) {
            return UNKNOWN;
        }
        int from = now.at[thing];
        if (from == NONE || from == house || bitOf(now.out, house) == 1 || wouldUntie(thing)) {
            return NOT;
        }
        remember();
        now.at[thing] = house;
        return from;
    }

    public int patch(int thing, int n) {
        if (!isThing(thing)) {
            return UNKNOWN;
        }
        if (n < 1 || n > MOST_WORTH) {
            return OUTSIDE;
        }
        if (now.at[thing] == NONE || now.worth[thing] >= MOST_WORTH) {
            return NOT;
        }
        remember();
        now.worth[thing] = Math.min(MOST_WORTH, now.worth[thing] + n);
        return now.worth[thing];
    }

    public int trade() {
        int traders = housesOnRings();
        if (traders == 0) {
            return NOT;
        }
        remember();
        // No two HOUSES on RINGS want the same THING, so none is moved twice.
        for (int h = 0; h < told.houses; h++) {
            if (bitOf(traders, h) == 1) {
                now.at[wants[h]] = h;
            }
        }
        return Integer.bitCount(traders);
    }

    public int undo() {
        if (pastCount == 0) {
            return NOT;
        }
        pastCount--;
        now.copyFrom(past[pastCount]);
        return pastCount;
    }

    public int keep(int k) {
        if (k < 0 || k >= MOST_KEPT) {
            return UNKNOWN;
        }
        kept[k].copyFrom(now);
        isKept[k] = true;
        return now.year;
    }

    public int back(int k) {
        if (k < 0 || k >= MOST_KEPT) {
            return UNKNOWN;
        }
        if (!isKept[k]) {
            return NOT;
        }
        now.copyFrom(kept[k]);
        pastCount = 0;
        return now.year;
    }

    // ---- foretold

    public int behind(int thing, int n, int what) {
        if (!isThing(thing)) {
            return UNKNOWN;
        }
        if (n < 0 || n > MOST_FORETOLD || what < 0 || what > 1) {
            return OUTSIDE;
        }
        foretell(n);
        return what == 0 ? ahead.worth[thing] : ahead.at[thing];
    }

    public int leaves(int house) {
        if (!isHouse(house)) {
            return UNKNOWN;
        }
        ahead.copyFrom(now);
        for (int n = 0; n <= MOST_FORETOLD; n++) {
            if (bitOf(ahead.out, house) == 1) {
                return n;
            }
            ahead.passYears(told, 1);
        }
        return NONE;
    }

    public int rings() {
        return housesOnRings();
    }

    public int pieces(int n) {
        if (n < 0 || n > MOST_FORETOLD) {
            return OUTSIDE;
        }
        foretell(n);
        net.draw(told, ahead);
        return net.parts(net.inside);
    }

    public int hangs() {
        net.draw(told, now);
        int all = net.parts(net.inside);
        int hanging = 0;
        for (int h = 0; h < told.houses; h++) {
            if (bitOf(net.inside, h) == 1 && net.parts(net.inside & ~(1 << h)) > all) {
                hanging |= 1 << h;
            }
        }
        return hanging;
    }

    public int way(int from, int to) {
        if (!isHouse(from) || !isHouse(to)) {
            return UNKNOWN;
        }
        net.draw(told, now);
        return net.stepsBetween(from, to);
    }

    public int knit(int k) {
        if (k < NONE || k >= 2 * MOST_SENT_TO_KNIT) {
            return OUTSIDE;
        }
        int fewest = fewestToKnit();
        if (k == NONE) {
            return fewest;
        }
        if (k % MOST_SENT_TO_KNIT >= fewest) {
            return NONE;
        }
        return k < MOST_SENT_TO_KNIT ? knitThings[k] : knitHouses[k - MOST_SENT_TO_KNIT];
    }

    public int whole(int q, int part) {
        if (q < 0 || q > 4 || part < 0 || part > 1) {
            return OUTSIDE;
        }
        net.draw(told, now);
        int links = net.links();
        int above = Net.weightOfAllReached(net, Integer.lowestOneBit(net.inside), links, q);
        int below = power(4, Integer.bitCount(links));
        // Below is a power of 2, so halving both is all that can be shortened.
        for (int i = 0; i < 2 * MOST_THINGS && above % 2 == 0 && below % 2 == 0; i++) {
            above /= 2;
            below /= 2;
        }
        return part == 0 ? above : below;
    }

    // ---- what was seen

    public int seen(int n, int home, int d) {
        if (n < 1 || n > MOST_YEARS_SEEN || home < 0 || home > 1 || d < 0 || d > MOST_WORTH) {
            return OUTSIDE;
        }
        if (sights.size >= MOST_SEEN) {
            return FULL;
        }
        sights.note(n, home == 1, d);
        return sights.size;
    }

    public int forget() {
        int had = sights.size;
        sights.size = 0;
        return had;
    }

    public int kinds() {
        return sights.fittingKinds();
    }

    public int ask() {
        int fitting = sights.fittingKinds();
        int least = Integer.bitCount(fitting);
        int answer = NONE;
        for (int n = 1; n <= MOST_YEARS_ASKED; n++) {
            for (int home = 0; home <= 1; home++) {
                int alike = mostAlike(fitting, n, home == 1);
                if (alike < least) {
                    least = alike;
                    answer = 10 * n + home;
                }
            }
        }
        return answer;
    }

    // ---- hooks

    public int hooks(int hooks, int n) {
        if (!isRack(hooks)) {
            return UNKNOWN;
        }
        if (n > MOST_ROOM) {
            return OUTSIDE;
        }
        if (n < 0) {
            return SIZE;
        }
        racks[hooks].renew(n);
        return n;
    }

    public int hang(int hooks, int i, int what, int v) {
        int refused = refusedAsSuch(hooks, what, v);
        if (refused != 0) {
            return refused;
        }
        Rack rack = racks[hooks];
        if (rack.missing) {
            return NULL;
        }
        if (i < 0 || i > rack.size) {
            return INDEX;
        }
        if (rack.size >= rack.room) {
            return ROOM;
        }
        rack.putAt(i, what, v);
        return rack.size;
    }

    public int unhang(int hooks, int i, int what) {
        if (!isRack(hooks)) {
            return UNKNOWN;
        }
        if (what < AS_NUMBER || what > AS_MARK) {
            return OUTSIDE;
        }
        Rack rack = racks[hooks];
        if (rack.missing) {
            return NULL;
        }
        if (i < 0 || i >= rack.size) {
            return INDEX;
        }
        if (rack.whats[i] != what) {
            return CAST;
        }
        int v = rack.takeFrom(i);
        return what == AS_NUMBER ? v + NUMBER_SHIFT : v;
    }

    public int find(int hooks, int what, int v) {
        int refused = refusedAsSuch(hooks, what, v);
        if (refused != 0) {
            return refused;
        }
        return racks[hooks].missing ? NULL : racks[hooks].firstPlaceOf(what, v);
    }

    public int join(int to, int from) {
        if (!isRack(to) || !isRack(from)) {
            return UNKNOWN;
        }
        if (racks[to].missing || racks[from].missing) {
            return NULL;
        }
        if (racks[to].size + racks[from].size > racks[to].room) {
            return ROOM;
        }
        racks[to].putAllBehind(racks[from]);
        return racks[to].size;
    }

    public int drop(int hooks) {
        if (!isRack(hooks)) {
            return UNKNOWN;
        }
        if (racks[hooks].missing) {
            return NULL;
        }
        int hung = racks[hooks].size;
        racks[hooks].takeAway();
        return hung;
    }

    public int count(int what) {
        switch (what) {
            case 0:
                return told.houses;
            case 1:
                return told.things;
            case 2:
                return now.year;
            case 3:
                return now.out;
            case 4:
                return now.tied(told);
            case 5:
                return worthOfAll();
            case 6:
                return thingsWhere(now.at, NONE);
            case 7:
                return sights.size;
            case 8:
                return hungOnAll();
            case 9:
                return pastCount;
            case 10:
                return text.length;
            default:
                return OUTSIDE;
        }
    }

    // ---- what the calls share

    private boolean isHouse(int house) {
        return house >= 0 && house < told.houses;
    }

    private boolean isThing(int thing) {
        return thing >= 0 && thing < told.things;
    }

    private static boolean isRack(int hooks) {
        return hooks >= 0 && hooks < MOST_HOOKS;
    }

    private static int bitOf(int bits, int place) {
        return bits >> place & 1;
    }

    private static int power(int base, int exponent) {
        int product = 1;
        for (int i = 0; i < exponent; i++) {
            product *= base;
        }
        return product;
    }

    private static int wearBy(int kind, boolean home) {
        return home ? WEARS_HOME[kind] : WEARS_AWAY[kind];
    }

    private static boolean isUnder(int rank, int above) {
        int r = rank;
        for (int step = 0; step < RANKS && r != NONE; step++) {
            if (r == above) {
                return true;
            }
            r = RANK_ABOVE[r];
        }
        return false;
    }

    private void beginAsTold() {
        now.beginAs(told);
        System.arraycopy(told.want, 0, wants, 0, MOST_HOUSES);
        pastCount = 0;
        for (int k = 0; k < MOST_KEPT; k++) {
            isKept[k] = false;
        }
        sights.size = 0;
        for (int i = 0; i < MOST_HOOKS; i++) {
            racks[i].takeAway();
        }
    }

    private int thingsWhere(int[] places, int house) {
        int bits = 0;
        for (int t = 0; t < told.things; t++) {
            if (places[t] == house) {
                bits |= 1 << t;
            }
        }
        return bits;
    }

    private int worthOfAll() {
        int sum = 0;
        for (int t = 0; t < told.things; t++) {
            sum += now.worth[t];
        }
        return sum;
    }

    private int hungOnAll() {
        int sum = 0;
        for (int i = 0; i < MOST_HOOKS; i++) {
            sum += racks[i].size;
        }
        return sum;
    }

    private void remember() {
        if (pastCount == MOST_PAST) {
            State oldest = past[0];
            for (int i = 1; i < MOST_PAST; i++) {
                past[i - 1] = past[i];
            }
            past[MOST_PAST - 1] = oldest;
            pastCount--;
        }
        past[pastCount].copyFrom(now);
        pastCount++;
    }

    private boolean wouldUntie(int thing) {
        int from = now.at[thing];
        if (told.owner[thing] == from) {
            return false;
        }
        for (int t = 0; t < told.things; t++) {
            if (t != thing && now.at[t] == from && told.owner[t] != from) {
                return false;
            }
        }
        return true;
    }

    private int arrowOf(int house) {
        if (bitOf(now.out, house) == 1 || wants[house] == NONE) {
            return NONE;
        }
        int to = now.at[wants[house]];
        return to == house ? NONE : to;
    }

    private boolean isOnRing(int house) {
        int h = arrowOf(house);
        for (int step = 1; step < MOST_HOUSES && h != NONE && h != house; step++) {
            h = arrowOf(h);
        }
        return h == house;
    }

    private int housesOnRings() {
        int bits = 0;
        for (int h = 0; h < told.houses; h++) {
            if (isOnRing(h)) {
                bits |= 1 << h;
            }
        }
        return bits;
    }

    private void foretell(int years) {
        ahead.copyFrom(now);
        ahead.passYears(told, years);
    }

    private int fewestToKnit() {
        net.draw(told, now);
        for (int n = 0; n <= MOST_SENT_TO_KNIT; n++) {
            if (knitsBy(n, 0, 0)) {
                return n;
            }
        }
        return NONE;
    }

    /** Tries, in the document's order, all ways to send just so many more, of THINGS from the given one on. */
    private boolean knitsBy(int more, int firstThing, int sent) {
        // One THING sent takes away one link and puts in one, so it saves one part at most.
        if (net.parts(net.inside) - 1 > more) {
            return false;
        }
        if (more == 0) {
            return true;
        }
        for (int t = firstThing; t < told.things && sent < MOST_SENT_TO_KNIT; t++) {
            if (now.at[t] != NONE && knitsBySending(t, more, sent)) {
                return true;
            }
        }
        return false;
    }

    private boolean knitsBySending(int thing, int more, int sent) {
        int before = net.ends[thing];
        for (int h = 0; h < told.houses; h++) {
            if (h == now.at[thing] || bitOf(net.inside, h) == 0) {
                continue;
            }
            net.ends[thing] = net.endsOf(told.owner[thing], h);
            knitThings[sent] = thing;
            knitHouses[sent] = h;
            if (knitsBy(more - 1, thing + 1, sent + 1)) {
                return true;
            }
        }
        net.ends[thing] = before;
        return false;
    }

    /** Of these KINDS, how many are in the greatest part that would be of like WORTH. */
    private static int mostAlike(int fitting, int n, boolean home) {
        int most = 0;
        for (int k = 0; k < KINDS; k++) {
            if (bitOf(fitting, k) == 1) {
                most = Math.max(most, alikeWith(k, fitting, n, home));
            }
        }
        return most;
    }

    private static int alikeWith(int kind, int fitting, int n, boolean home) {
        int alike = 0;
        for (int k = 0; k < KINDS; k++) {
            if (bitOf(fitting, k) == 1 && n * wearBy(k, home) == n * wearBy(kind, home)) {
                alike++;
            }
        }
        return alike;
    }

    /** What hang() and find() refuse ahead of what the machine finds; 0 if nothing. */
    private int refusedAsSuch(int hooks, int what, int v) {
        if (!isRack(hooks) || (what == AS_THING && !isThing(v))) {
            return UNKNOWN;
        }
        if (what < AS_NUMBER || what > AS_MARK) {
            return OUTSIDE;
        }
        if (what == AS_NUMBER && (v < -MOST_NUMBER || v > MOST_NUMBER)) {
            return OUTSIDE;
        }
        if (what == AS_MARK && (v < 0 || v > MOST_MARK)) {
            return OUTSIDE;
        }
        return 0;
    }

    /** What texts told, whatever has been done since. */
    private static final class Told {
        private int houses = 0;
        private int things = 0;
        private final int[] kind = new int[MOST_THINGS];
        private final int[] owner = new int[MOST_THINGS];
        private final int[] at = new int[MOST_THINGS];
        private final int[] worth = new int[MOST_THINGS];
        private final int[] want = new int[MOST_HOUSES];

        private Told() {
            Arrays.fill(want, NONE);
        }

        private void copyFrom(Told other) {
            houses = other.houses;
            things = other.things;
            System.arraycopy(other.kind, 0, kind, 0, MOST_THINGS);
            System.arraycopy(other.owner, 0, owner, 0, MOST_THINGS);
            System.arraycopy(other.at, 0, at, 0, MOST_THINGS);
            System.arraycopy(other.worth, 0, worth, 0, MOST_THINGS);
            System.arraycopy(other.want, 0, want, 0, MOST_HOUSES);
        }

        private void clearAll() {
            houses = 0;
            things = 0;
            Arrays.fill(want, NONE);
        }

        private void addThing(int itsKind, int itsOwner, int place, int itsWorth) {
            kind[things] = itsKind;
            owner[things] = itsOwner;
            at[things] = place;
            worth[things] = itsWorth;
            things++;
        }
    }

    /** What YEARS and deeds change, and what is undone, kept and foretold. */
    private static final class State {
        private final int[] at = new int[MOST_THINGS];
        private final int[] worth = new int[MOST_THINGS];
        private int out = 0;
        private int year = 0;

        private void copyFrom(State other) {
            System.arraycopy(other.at, 0, at, 0, MOST_THINGS);
            System.arraycopy(other.worth, 0, worth, 0, MOST_THINGS);
            out = other.out;
            year = other.year;
        }

        private void beginAs(Told told) {
            System.arraycopy(told.at, 0, at, 0, MOST_THINGS);
            System.arraycopy(told.worth, 0, worth, 0, MOST_THINGS);
            out = 0;
            year = 0;
        }

        private int inside(Told told) {
            return (1 << told.houses) - 1 & ~out;
        }

        private int tied(Told told) {
            int bits = 0;
            for (int t = 0; t < told.things; t++) {
                if (at[t] != NONE && at[t] != told.owner[t]) {
                    bits |= 1 << at[t];
                }
            }
            return bits & ~out;
        }

        private int wearOf(Told told, int thing) {
            return at[thing] == NONE ? 0 : wearBy(told.kind[thing], at[thing] == told.owner[thing]);
        }

        private void passYears(Told told, int n) {
            for (int i = 0; i < n; i++) {
                wearAll(told);
                leaveUntied(told);
                year++;
            }
        }

        private void wearAll(Told told) {
            for (int t = 0; t < told.things; t++) {
                if (at[t] == NONE) {
                    continue;
                }
                worth[t] -= wearOf(told, t);
                if (worth[t] <= 0) {
                    worth[t] = 0;
                    at[t] = NONE;
                }
            }
        }

        private void leaveUntied(Told told) {
            int leaving = inside(told) & ~tied(told);
            out |= leaving;
            for (int t = 0; t < told.things; t++) {
                if (at[t] != NONE && bitOf(leaving, at[t]) == 1) {
                    at[t] = NONE;
                }
            }
        }
    }

    /** THE TEXT, and the TOKEN at which its reader stands. */
    private static final class Text {
        private static final int END = 0, WORD = 1, DIGITS = 2, BREAK = 3, BLANK = 4, OTHER = 5;

        private final char[] letters = new char[MOST_LETTERS];
        private int length = 0;
        private int clauses = 0;
        private int type = END;
        private int start = 0;
        private int end = 0;

        /** Does the CLAUSES on what is given, up to the FAULT, if there is one: its place. */
        private int readInto(Told told) {
            clauses = 0;
            end = 0;
            step();
            for (int i = 0; i < MOST_CLAUSES; i++) {
                if (!readClause(told)) {
                    return start;
                }
                clauses++;
                if (type == END) {
                    return NONE;
                }
                // Behind the last CLAUSE that may be, no BREAK can stand either.
                if (type != BREAK || clauses == MOST_CLAUSES) {
                    return start;
                }
                step();
            }
            return start;
        }

        /** Where a CLAUSE cannot stand, the reader stays at the TOKEN of the FAULT. */
        private boolean readClause(Told told) {
            if (isWord("commons")) {
                told.clearAll();
                step();
                return true;
            }
            if (isWord("house")) {
                return readHouse(told);
            }
            if (isWord("want")) {
                return readWant(told);
            }
            return readThing(told, kindHere());
        }

        private boolean readHouse(Told told) {
            if (told.houses >= MOST_HOUSES) {
                return false;
            }
            told.houses++;
            step();
            return true;
        }

        private boolean readWant(Told told) {
            step();
            int house = readNumber(0, told.houses - 1);
            if (house == NONE) {
                return false;
            }
            int thing = readNumber(0, told.things - 1);
            if (thing == NONE) {
                return false;
            }
            told.want[house] = thing;
            return true;
        }

        private boolean readThing(Told told, int kind) {
            if (kind == NONE || told.things >= MOST_THINGS) {
                return false;
            }
            step();
            int owner = readNumber(0, told.houses - 1);
            if (owner == NONE) {
                return false;
            }
            int place = readNumber(0, told.houses - 1);
            if (place == NONE) {
                return false;
            }
            int worth = readNumber(1, MOST_WORTH);
            if (worth == NONE) {
                return false;
            }
            told.addThing(kind, owner, place, worth);
            return true;
        }

        private int kindHere() {
            if (isWord("pan")) {
                return PAN;
            }
            if (isWord("spoon")) {
                return SPOON;
            }
            if (isWord("pipe")) {
                return PIPE;
            }
            if (isWord("shoe")) {
                return SHOE;
            }
            return isWord("cap") ? CAP : NONE;
        }

        /** The number that stands here, within its bounds; NONE, and the reader stays. */
        private int readNumber(int least, int most) {
            if (type != DIGITS || end - start > 2) {
                return NONE;
            }
            int n = 0;
            for (int i = start; i < end; i++) {
                n = 10 * n + letters[i] - '0';
            }
            if (n < least || n > most) {
                return NONE;
            }
            step();
            return n;
        }

        private boolean isWord(String word) {
            if (type != WORD || end - start != word.length()) {
                return false;
            }
            for (int i = 0; i < word.length(); i++) {
                if (letters[start + i] != word.charAt(i)) {
                    return false;
                }
            }
            return true;
        }

        private void step() {
            start = end;
            while (start < length && typeOf(letters[start]) == BLANK) {
                start++;
            }
            end = start;
            if (start >= length) {
                type = END;
                return;
            }
            type = typeOf(letters[start]);
            end++;
            while ((type == WORD || type == DIGITS) && end < length && typeOf(letters[end]) == type) {
                end++;
            }
        }

        private static int typeOf(char letter) {
            if (letter >= 'a' && letter <= 'z') {
                return WORD;
            }
            if (letter >= '0' && letter <= '9') {
                return DIGITS;
            }
            if (letter == ';') {
                return BREAK;
            }
            return letter == ' ' ? BLANK : OTHER;
        }
    }

    /** HOUSES that are not OUT, and for each THING the two (bits) that it links; 0 if it links none. */
    private static final class Net {
        private int inside = 0;
        private int things = 0;
        private final int[] ends = new int[MOST_THINGS];

        private void draw(Told told, State state) {
            inside = state.inside(told);
            things = told.things;
            for (int t = 0; t < things; t++) {
                ends[t] = state.at[t] == NONE ? 0 : endsOf(told.owner[t], state.at[t]);
            }
        }

        private int endsOf(int owner, int place) {
            int both = 1 << owner | 1 << place;
            return owner == place || (both & ~inside) != 0 ? 0 : both;
        }

        private int links() {
            int bits = 0;
            for (int t = 0; t < things; t++) {
                if (ends[t] != 0) {
                    bits |= 1 << t;
                }
            }
            return bits;
        }

        /** These HOUSES, and all one link from them, over links within the given ones. */
        private int widened(int reach, int within) {
            int wider = reach;
            for (int t = 0; t < things; t++) {
                if ((ends[t] & reach) != 0 && (ends[t] & ~within) == 0) {
                    wider |= ends[t];
                }
            }
            return wider;
        }

        private int reachOf(int house, int within) {
            int reach = 1 << house;
            for (int steps = 1; steps < MOST_HOUSES; steps++) {
                int wider = widened(reach, within);
                if (wider == reach) {
                    return reach;
                }
                reach = wider;
            }
            return reach;
        }

        private int parts(int within) {
            int rest = within;
            int parts = 0;
            for (int h = 0; h < MOST_HOUSES; h++) {
                if (bitOf(rest, h) == 1) {
                    rest &= ~reachOf(h, within);
                    parts++;
                }
            }
            return parts;
        }

        private int stepsBetween(int from, int to) {
            if (bitOf(inside, from) == 0) {
                return NONE;
            }
            int reach = 1 << from;
            for (int steps = 0; steps < MOST_HOUSES; steps++) {
                if (bitOf(reach, to) == 1) {
                    return steps;
                }
                reach = widened(reach, inside);
            }
            return NONE;
        }

        /** In how many of 4 ^ (how many links are open) cases of like odds all HOUSES are reached, from those that are now. */
        private static int weightOfAllReached(Net net, int reach, int open, int q) {
            if (reach == net.inside) {
                return power(4, Integer.bitCount(open));
            }
            int t = net.openLinkOutOf(reach, open);
            if (t == NONE) {
                return 0;
            }
            // One link fewer is open at each level, so there are no more levels than THINGS.
            int others = open & ~(1 << t);
            int safe = q == 4 ? 0 : weightOfAllReached(net, reach | net.ends[t], others, q);
            int stolen = q == 0 ? 0 : weightOfAllReached(net, reach, others, q);
            return (4 - q) * safe + q * stolen;
        }

        private int openLinkOutOf(int reach, int open) {
            for (int t = 0; t < things; t++) {
                if (bitOf(open, t) == 1 && (ends[t] & reach) != 0 && (ends[t] & ~reach) != 0) {
                    return t;
                }
            }
            return NONE;
        }
    }

    /** What was SEEN of a THING of unknown KIND. */
    private static final class Sights {
        private final int[] years = new int[MOST_SEEN];
        private final boolean[] home = new boolean[MOST_SEEN];
        private final int[] lost = new int[MOST_SEEN];
        private int size = 0;

        private void note(int n, boolean atHome, int d) {
            years[size] = n;
            home[size] = atHome;
            lost[size] = d;
            size++;
        }

        private int fittingKinds() {
            int bits = 0;
            for (int k = 0; k < KINDS; k++) {
                if (fits(k)) {
                    bits |= 1 << k;
                }
            }
            return bits;
        }

        private boolean fits(int kind) {
            for (int i = 0; i < size; i++) {
                if (years[i] * wearBy(kind, home[i]) != lost[i]) {
                    return false;
                }
            }
            return true;
        }
    }

    /** HOOKS; those that are missing hold nothing. */
    private static final class Rack {
        private boolean missing = true;
        private int room = 0;
        private int size = 0;
        private final int[] whats = new int[MOST_ROOM];
        private final int[] values = new int[MOST_ROOM];

        private void renew(int newRoom) {
            missing = false;
            room = newRoom;
            size = 0;
        }

        private void takeAway() {
            missing = true;
            room = 0;
            size = 0;
        }

        private void putAt(int place, int what, int v) {
            for (int i = size; i > place; i--) {
                whats[i] = whats[i - 1];
                values[i] = values[i - 1];
            }
            whats[place] = what;
            values[place] = v;
            size++;
        }

        private int takeFrom(int place) {
            int v = values[place];
            for (int i = place + 1; i < size; i++) {
                whats[i - 1] = whats[i];
                values[i - 1] = values[i];
            }
            size--;
            return v;
        }

        private int firstPlaceOf(int what, int v) {
            for (int i = 0; i < size; i++) {
                if (whats[i] == what && values[i] == v) {
                    return i;
                }
            }
            return NONE;
        }

        private void putAllBehind(Rack from) {
            // Taken first: the two may be the same, and grow.
            int more = from.size;
            for (int i = 0; i < more; i++) {
                putAt(size, from.whats[i], from.values[i]);
            }
        }
    }
}
