/** All that can be asked without changing anything, as one line. */
final class Look {
    private Look() {
    }

    static String at(HookTies x) {
        StringBuilder all = new StringBuilder();
        for (int what = 0; what <= 10; what++) {
            put(all, "c", x.count(what));
        }
        for (int h = 0; h < x.count(0); h++) {
            for (int what = 0; what <= 4; what++) {
                put(all, "h", x.house(h, what));
            }
        }
        for (int t = 0; t < x.count(1); t++) {
            for (int what = 0; what <= 4; what++) {
                put(all, "t", x.thing(t, what));
            }
        }
        put(all, "f", x.fault());
        put(all, "k", x.kinds());
        for (int r = 0; r < 3; r++) {
            rack(all, x, r);
        }
        return all.toString();
    }

    private static void rack(StringBuilder all, HookTies x, int r) {
        put(all, "r", x.find(r, 0, 0));
        if (x.find(r, 0, 0) == HookTies.NULL) {
            return;
        }
        put(all, "", x.find(r, 0, -9999));
        put(all, "", x.find(r, 0, 9999));
        for (int v = -9; v < 26; v++) {
            put(all, "", x.find(r, 0, v));
            put(all, "", x.find(r, 1, v));
            put(all, "", x.find(r, 2, v));
        }
    }

    private static void put(StringBuilder all, String name, int answer) {
        all.append(name).append(answer).append(' ');
    }
}
