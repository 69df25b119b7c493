import java.math.BigInteger;
import java.util.ArrayDeque;
import java.util.ArrayList;
import java.util.Arrays;
import java.util.Deque;
import java.util.HashSet;
import java.util.List;
import java.util.Set;
import java.util.TreeMap;
import java.util.regex.Matcher;
import java.util.regex.Pattern;

/** The document once more, by other means (objects, lists, the library, Java's own exceptions), to compare with. */
final class Model {
    private static final int NONE = -1, UNKNOWN = -2, OUTSIDE = -3, NOT = -4, FULL = -5, NULL = -11, INDEX = -12, CAST = -13,
        ROOM = -14, SIZE = -15;

    private abstract static class Kind {
        abstract int wears(boolean home);
    }

    private static class Pan extends Kind {
        int wears(boolean home) {
            return 1;
        }
    }

    private static final class Spoon extends Pan {
        int wears(boolean home) {
            return super.wears(home) - 1;
        }
    }

    private static final class Pipe extends Pan {
        int wears(boolean home) {
            return 2 * super.wears(home);
        }
    }

    private static class Shoe extends Kind {
        int wears(boolean home) {
            return home ? 0 : 3;
        }
    }

    private static final class Cap extends Shoe {
        int wears(boolean home) {
            return Math.max(0, super.wears(home) - 1);
        }
    }

    private static final List<Kind> KINDS = List.of(new Pan(), new Spoon(), new Pipe(), new Shoe(), new Cap());
    private static final List<String> WORDS = List.of("pan", "spoon", "pipe", "shoe", "cap");
    private static final List<Class<?>> CLASSES =
        List.of(Kind.class, Pan.class, Spoon.class, Pipe.class, Shoe.class, Cap.class);

    private record Thing(int kind, int owner, int worth, int at) {
        Kind as() {
            return KINDS.get(kind);
        }

        int wears() {
            return at == NONE ? 0 : as().wears(at == owner);
        }

        Thing moved(int house) {
            return new Thing(kind, owner, worth, house);
        }

        Thing of(int newWorth) {
            return new Thing(kind, owner, newWorth, at);
        }
    }

    /** A state is never changed, but followed by another one. */
    private record World(int houses, List<Thing> things, Set<Integer> out, int year) {
        boolean isIn(int h) {
            return h >= 0 && h < houses && !out.contains(h);
        }

        boolean tied(int h) {
            return isIn(h) && things.stream().anyMatch(t -> t.at == h && t.owner != h);
        }

        World with(int thing, Thing other) {
            List<Thing> all = new ArrayList<>(things);
            all.set(thing, other);
            return new World(houses, all, out, year);
        }

        World next() {
            List<Thing> worn = new ArrayList<>();
            for (Thing t : things) {
                int worth = t.worth - t.wears();
                worn.add(t.at != NONE && worth <= 0 ? t.of(0).moved(NONE) : t.of(worth));
            }
            World mid = new World(houses, worn, out, year);
            Set<Integer> gone = new HashSet<>(out);
            for (int h = 0; h < houses; h++) {
                if (!mid.tied(h)) {
                    gone.add(h);
                }
            }
            List<Thing> left = new ArrayList<>();
            for (Thing t : worn) {
                left.add(gone.contains(t.at) ? t.moved(NONE) : t);
            }
            return new World(houses, left, gone, year + 1);
        }

        World after(int n) {
            World w = this;
            for (int i = 0; i < n; i++) {
                w = w.next();
            }
            return w;
        }

        int[][] ways() {
            int[][] d = new int[houses][houses];
            for (int[] row : d) {
                Arrays.fill(row, 1000);
            }
            for (int h = 0; h < houses; h++) {
                if (isIn(h)) {
                    d[h][h] = 0;
                }
            }
            for (Thing t : things) {
                if (isIn(t.at) && isIn(t.owner) && t.at != t.owner) {
                    d[t.at][t.owner] = 1;
                    d[t.owner][t.at] = 1;
                }
            }
            for (int k = 0; k < houses; k++) {
                for (int i = 0; i < houses; i++) {
                    for (int j = 0; j < houses; j++) {
                        d[i][j] = Math.min(d[i][j], d[i][k] + d[k][j]);
                    }
                }
            }
            return d;
        }

        /** As many as there are houses that reach no lesser one. */
        int pieces() {
            int[][] d = ways();
            int pieces = 0;
            for (int h = 0; h < houses; h++) {
                boolean first = isIn(h);
                for (int g = 0; g < h; g++) {
                    first &= d[h][g] >= 1000;
                }
                pieces += first ? 1 : 0;
            }
            return pieces;
        }

        World without(int h) {
            Set<Integer> gone = new HashSet<>(out);
            gone.add(h);
            return new World(houses, things, gone, year);
        }
    }

    private static final World EMPTY = new World(0, List.of(), Set.of(), 0);

    private String text = "";
    private World told = EMPTY;
    private TreeMap<Integer, Integer> toldWants = new TreeMap<>();
    private World now = EMPTY;
    private TreeMap<Integer, Integer> wants = new TreeMap<>();
    private final Deque<World> past = new ArrayDeque<>();
    private final World[] kept = new World[2];
    private final List<int[]> sights = new ArrayList<>();

    private static final class Hooks {
        final int room;
        final List<Object> row = new ArrayList<>();

        Hooks(int room) {
            this.room = room;
        }
    }

    private record ThingHung(int thing) {
    }

    private final Hooks[] racks = new Hooks[3];

    // ---- what is told

    public int write(int letter) {
        if (letter != (letter & 255)) {
            return OUTSIDE;
        }
        if (text.length() == 200) {
            return FULL;
        }
        text += (char) letter;
        return text.length();
    }

    public int erase() {
        int had = text.length();
        text = "";
        return had;
    }

    private record Token(String word, int place) {
    }

    private static final class Fault extends Exception {
        private static final long serialVersionUID = 1;
        final int place;

        Fault(int place) {
            this.place = place;
        }
    }

    /** Reads THE TEXT on a draft of what is told. */
    private final class Reading {
        final Deque<Token> tokens = new ArrayDeque<>();
        World draft = told;
        TreeMap<Integer, Integer> draftWants = new TreeMap<>(toldWants);
        int clauses = 0;

        Reading() throws Fault {
            Matcher m = Pattern.compile("[a-z]+|[0-9]+|[^ ]", Pattern.DOTALL).matcher(text);
            while (m.find()) {
                tokens.add(new Token(m.group(), m.start()));
            }
            tokens.add(new Token("", text.length()));
            while (true) {
                clause();
                clauses++;
                Token t = tokens.remove();
                if (t.word.isEmpty()) {
                    return;
                }
                if (!t.word.equals(";") || clauses == 24) {
                    throw new Fault(t.place);
                }
            }
        }

        void clause() throws Fault {
            Token t = tokens.remove();
            List<Thing> things = new ArrayList<>(draft.things);
            if (t.word.equals("commons")) {
                draft = EMPTY;
                draftWants.clear();
            } else if (t.word.equals("house") && draft.houses < 7) {
                draft = new World(draft.houses + 1, things, Set.of(), 0);
            } else if (WORDS.contains(t.word) && things.size() < 10) {
                int owner = number(0, draft.houses - 1);
                int at = number(0, draft.houses - 1);
                things.add(new Thing(WORDS.indexOf(t.word), owner, number(1, 99), at));
                draft = new World(draft.houses, things, Set.of(), 0);
            } else if (t.word.equals("want")) {
                int house = number(0, draft.houses - 1);
                draftWants.put(house, number(0, things.size() - 1));
            } else {
                throw new Fault(t.place);
            }
        }

        int number(int least, int most) throws Fault {
            Token t = tokens.remove();
            if (!t.word.matches("[0-9]{1,2}") || Integer.parseInt(t.word) < least || Integer.parseInt(t.word) > most) {
                throw new Fault(t.place);
            }
            return Integer.parseInt(t.word);
        }
    }

    public int fault() {
        try {
            new Reading();
            return NONE;
        } catch (Fault f) {
            return f.place;
        }
    }

    public int commons() {
        Reading r;
        try {
            r = new Reading();
        } catch (Fault f) {
            return NOT;
        }
        told = r.draft;
        toldWants = r.draftWants;
        now = told;
        wants = new TreeMap<>(toldWants);
        text = "";
        past.clear();
        Arrays.fill(kept, null);
        sights.clear();
        Arrays.fill(racks, null);
        return r.clauses;
    }

    private boolean noHouse(int h) {
        return h < 0 || h >= now.houses;
    }

    private boolean noThing(int t) {
        return t < 0 || t >= now.things.size();
    }

    private interface OfThing {
        boolean so(Thing t);
    }

    private int things(OfThing which) {
        int bits = 0;
        for (int t = 0; t < now.things.size(); t++) {
            bits += which.so(now.things.get(t)) ? 1 << t : 0;
        }
        return bits;
    }

    public int house(int house, int what) {
        if (noHouse(house)) {
            return UNKNOWN;
        }
        return switch (what) {
            case 0 -> now.isIn(house) ? 0 : 1;
            case 1 -> things(t -> t.at == house);
            case 2 -> things(t -> t.owner == house);
            case 3 -> now.tied(house) ? 1 : 0;
            case 4 -> wants.getOrDefault(house, NONE);
            default -> OUTSIDE;
        };
    }

    public int thing(int thing, int what) {
        if (noThing(thing)) {
            return UNKNOWN;
        }
        Thing t = now.things.get(thing);
        return switch (what) {
            case 0 -> t.kind;
            case 1 -> t.owner;
            case 2 -> t.worth;
            case 3 -> t.at;
            case 4 -> t.wears();
            default -> OUTSIDE;
        };
    }

    public int as(int thing, int kind) {
        if (noThing(thing)) {
            return UNKNOWN;
        }
        if (kind < 0 || kind > 5) {
            return OUTSIDE;
        }
        Kind k = now.things.get(thing).as();
        return CLASSES.get(kind).isInstance(k) ? k.wears(false) : NOT;
    }

    public int want(int house, int thing) {
        if (noHouse(house) || thing != NONE && noThing(thing)) {
            return UNKNOWN;
        }
        Integer was = thing == NONE ? wants.remove(house) : wants.put(house, thing);
        return was == null ? NONE : was;
    }

    // ---- what is done

    private void become(World next) {
        past.push(now);
        if (past.size() > 8) {
            past.removeLast();
        }
        now = next;
    }

    public int year(int n) {
        if (n < 1 || n > 12) {
            return OUTSIDE;
        }
        if (now.year + n > 999) {
            return FULL;
        }
        become(now.after(n));
        return now.year;
    }

    public int send(int thing, int house) {
        if (noThing(thing) || noHouse(house)) {
            return UNKNOWN;
        }
        Thing t = now.things.get(thing);
        if (t.at == NONE || t.at == house || !now.isIn(house)) {
            return NOT;
        }
        World next = now.with(thing, t.moved(house));
        if (now.tied(t.at) && !next.tied(t.at)) {
            return NOT;
        }
        become(next);
        return t.at;
    }

    public int patch(int thing, int n) {
        if (noThing(thing)) {
            return UNKNOWN;
        }
        if (n < 1 || n > 99) {
            return OUTSIDE;
        }
        Thing t = now.things.get(thing);
        if (t.at == NONE || t.worth == 99) {
            return NOT;
        }
        become(now.with(thing, t.of(Math.min(99, t.worth + n))));
        return now.things.get(thing).worth;
    }

    /** Houses that lead nowhere, or to none, or to which none leads, are struck off until none is: rings are left. */
    private Set<Integer> onRings() {
        TreeMap<Integer, Integer> arrows = new TreeMap<>();
        wants.forEach((h, t) -> {
            int at = now.things.get(t).at;
            if (now.isIn(h) && at != NONE && at != h) {
                arrows.put(h, at);
            }
        });
        int before;
        do {
            before = arrows.size();
            arrows.keySet().retainAll(new HashSet<>(arrows.values()));
            arrows.values().removeIf(to -> !arrows.containsKey(to));
        } while (arrows.size() < before);
        return arrows.keySet();
    }

    public int trade() {
        Set<Integer> on = onRings();
        if (on.isEmpty()) {
            return NOT;
        }
        World next = now;
        for (int h : on) {
            next = next.with(wants.get(h), now.things.get(wants.get(h)).moved(h));
        }
        become(next);
        return on.size();
    }

    public int undo() {
        if (past.isEmpty()) {
            return NOT;
        }
        now = past.pop();
        return past.size();
    }

    public int keep(int k) {
        if (k != 0 && k != 1) {
            return UNKNOWN;
        }
        kept[k] = now;
        return now.year;
    }

    public int back(int k) {
        if (k != 0 && k != 1) {
            return UNKNOWN;
        }
        if (kept[k] == null) {
            return NOT;
        }
        now = kept[k];
        past.clear();
        return now.year;
    }

    // ---- foretold

    public int behind(int thing, int n, int what) {
        if (noThing(thing)) {
            return UNKNOWN;
        }
        if (n < 0 || n > 60 || what != 0 && what != 1) {
            return OUTSIDE;
        }
        Thing t = now.after(n).things.get(thing);
        return what == 0 ? t.worth : t.at;
    }

    public int leaves(int house) {
        if (noHouse(house)) {
            return UNKNOWN;
        }
        for (int n = 0; n <= 60; n++) {
            if (!now.after(n).isIn(house)) {
                return n;
            }
        }
        return NONE;
    }

    public int rings() {
        return onRings().stream().mapToInt(h -> 1 << h).sum();
    }

    public int pieces(int n) {
        return n < 0 || n > 60 ? OUTSIDE : now.after(n).pieces();
    }

    public int hangs() {
        int bits = 0;
        for (int h = 0; h < now.houses; h++) {
            bits += now.isIn(h) && now.without(h).pieces() > now.pieces() ? 1 << h : 0;
        }
        return bits;
    }

    public int way(int from, int to) {
        if (noHouse(from) || noHouse(to)) {
            return UNKNOWN;
        }
        int d = now.ways()[from][to];
        return d >= 1000 ? NONE : d;
    }

    /** Of all ways to send n things, each as (thing, house, thing, house), the first that knits. */
    private int[] firstOf(World w, int n, int from) {
        if (n == 0) {
            return w.pieces() <= 1 ? new int[0] : null;
        }
        for (int t = from; t < w.things.size(); t++) {
            for (int h = 0; h < w.houses; h++) {
                Thing thing = w.things.get(t);
                if (thing.at == NONE || thing.at == h || !w.isIn(h)) {
                    continue;
                }
                int[] rest = firstOf(w.with(t, thing.moved(h)), n - 1, t + 1);
                if (rest != null) {
                    int[] all = new int[rest.length + 2];
                    all[0] = t;
                    all[1] = h;
                    System.arraycopy(rest, 0, all, 2, rest.length);
                    return all;
                }
            }
        }
        return null;
    }

    public int knit(int k) {
        if (k < -1 || k > 3) {
            return OUTSIDE;
        }
        int[] sent = null;
        for (int n = 0; n <= 2 && sent == null; n++) {
            sent = firstOf(now, n, 0);
        }
        if (sent == null) {
            return NONE;
        }
        if (k == NONE) {
            return sent.length / 2;
        }
        int place = k < 2 ? 2 * k : 2 * (k - 2) + 1;
        return place < sent.length ? sent[place] : NONE;
    }

    private BigInteger odds(World w, int t, int q) {
        if (t == w.things.size()) {
            return w.pieces() <= 1 ? BigInteger.ONE : BigInteger.ZERO;
        }
        Thing thing = w.things.get(t);
        if (thing.at == NONE) {
            return odds(w, t + 1, q).multiply(BigInteger.valueOf(4));
        }
        BigInteger stolen = odds(w.with(t, thing.moved(NONE)), t + 1, q).multiply(BigInteger.valueOf(q));
        return stolen.add(odds(w, t + 1, q).multiply(BigInteger.valueOf(4 - q)));
    }

    public int whole(int q, int part) {
        if (q < 0 || q > 4 || part < 0 || part > 1) {
            return OUTSIDE;
        }
        BigInteger above = odds(now, 0, q);
        BigInteger below = BigInteger.valueOf(4).pow(now.things.size());
        BigInteger same = above.gcd(below);
        return (part == 0 ? above : below).divide(same).intValueExact();
    }

    // ---- what was seen

    public int seen(int n, int home, int d) {
        if (n < 1 || n > 20 || home < 0 || home > 1 || d < 0 || d > 99) {
            return OUTSIDE;
        }
        if (sights.size() == 6) {
            return FULL;
        }
        sights.add(new int[] {n, home, d});
        return sights.size();
    }

    public int forget() {
        int had = sights.size();
        sights.clear();
        return had;
    }

    private static int worthAfter(int kind, int n, int home) {
        int worth = 99;
        for (int i = 0; i < n; i++) {
            worth -= KINDS.get(kind).wears(home == 1);
        }
        return worth;
    }

    public int kinds() {
        int bits = 0;
        for (int k = 0; k < 5; k++) {
            int kind = k;
            bits += sights.stream().allMatch(s -> worthAfter(kind, s[0], s[1]) == 99 - s[2]) ? 1 << k : 0;
        }
        return bits;
    }

    public int ask() {
        int bits = kinds();
        TreeMap<Integer, Integer> best = new TreeMap<>();
        for (int code : new int[] {31, 30, 21, 20, 11, 10}) {
            TreeMap<Integer, Integer> parts = new TreeMap<>();
            for (int k = 0; k < 5; k++) {
                if ((bits >> k & 1) == 1) {
                    parts.merge(worthAfter(k, code / 10, code % 10), 1, Integer::sum);
                }
            }
            if (parts.size() > 1) {
                best.put(parts.values().stream().max(Integer::compare).get(), code);
            }
        }
        return best.isEmpty() ? NONE : best.firstEntry().getValue();
    }

    // ---- hooks

    private static boolean noHooks(int hooks) {
        return hooks < 0 || hooks > 2;
    }

    public int hooks(int hooks, int n) {
        if (noHooks(hooks)) {
            return UNKNOWN;
        }
        if (n > 12) {
            return OUTSIDE;
        }
        if (n < 0) {
            return SIZE;
        }
        racks[hooks] = new Hooks(n);
        return n;
    }

    /** What such a one is: an Integer, a ThingHung, a Character; or a refusal, as a Short. */
    private Object such(int hooks, int what, int v) {
        if (noHooks(hooks) || what == 1 && noThing(v)) {
            return (short) UNKNOWN;
        }
        if (what == 0 && Math.abs((long) v) <= 9999) {
            return v;
        }
        if (what == 1) {
            return new ThingHung(v);
        }
        if (what == 2 && v >= 0 && v <= 25) {
            return (char) ('a' + v);
        }
        return (short) OUTSIDE;
    }

    public int hang(int hooks, int i, int what, int v) {
        Object one = such(hooks, what, v);
        if (one instanceof Short refused) {
            return refused;
        }
        try {
            Hooks h = racks[hooks];
            h.row.subList(0, i);
            if (h.row.size() == h.room) {
                return ROOM;
            }
            h.row.add(i, one);
            return h.row.size();
        } catch (NullPointerException e) {
            return NULL;
        } catch (IndexOutOfBoundsException | IllegalArgumentException e) {
            return INDEX;
        }
    }

    public int unhang(int hooks, int i, int what) {
        if (noHooks(hooks)) {
            return UNKNOWN;
        }
        if (what < 0 || what > 2) {
            return OUTSIDE;
        }
        try {
            Object one = racks[hooks].row.get(i);
            int v = what == 0 ? (Integer) one + 50000 : what == 1 ? ((ThingHung) one).thing : (Character) one - 'a';
            racks[hooks].row.remove(i);
            return v;
        } catch (NullPointerException e) {
            return NULL;
        } catch (IndexOutOfBoundsException e) {
            return INDEX;
        } catch (ClassCastException e) {
            return CAST;
        }
    }

    public int find(int hooks, int what, int v) {
        Object one = such(hooks, what, v);
        if (one instanceof Short refused) {
            return refused;
        }
        return racks[hooks] == null ? NULL : racks[hooks].row.indexOf(one);
    }

    public int join(int to, int from) {
        if (noHooks(to) || noHooks(from)) {
            return UNKNOWN;
        }
        if (racks[to] == null || racks[from] == null) {
            return NULL;
        }
        List<Object> both = new ArrayList<>(racks[to].row);
        both.addAll(racks[from].row);
        if (both.size() > racks[to].room) {
            return ROOM;
        }
        racks[to].row.clear();
        racks[to].row.addAll(both);
        return both.size();
    }

    public int drop(int hooks) {
        if (noHooks(hooks)) {
            return UNKNOWN;
        }
        if (racks[hooks] == null) {
            return NULL;
        }
        int hung = racks[hooks].row.size();
        racks[hooks] = null;
        return hung;
    }

    public int count(int what) {
        return switch (what) {
            case 0 -> now.houses;
            case 1 -> now.things.size();
            case 2 -> now.year;
            case 3 -> now.out.stream().mapToInt(h -> 1 << h).sum();
            case 4 -> {
                int bits = 0;
                for (int h = 0; h < now.houses; h++) {
                    bits += now.tied(h) ? 1 << h : 0;
                }
                yield bits;
            }
            case 5 -> now.things.stream().mapToInt(t -> t.worth).sum();
            case 6 -> things(t -> t.at == NONE);
            case 7 -> sights.size();
            case 8 -> Arrays.stream(racks).mapToInt(r -> r == null ? 0 : r.row.size()).sum();
            case 9 -> past.size();
            case 10 -> text.length();
            default -> OUTSIDE;
        };
    }
}
