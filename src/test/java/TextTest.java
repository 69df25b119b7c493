/** Promises 1 to 5: a new object, write, erase, fault, commons. */
public final class TextTest {
    private static final Due due = new Due();

    public static void main(String[] args) {
        newObject();
        write();
        erase();
        faultOfShape();
        faultOfBounds();
        faultOfMany();
        commons();
        laterTexts();
        behindTexts();
        due.end();
    }

    private static void newObject() {
        due.about("promise 1");
        HookTies x = new HookTies();
        for (int what = 0; what <= 10; what++) {
            due.is("count(" + what + ")", x.count(what), 0);
        }
        due.is("house(0, 0)", x.house(0, 0), Due.UNKNOWN);
        due.is("thing(0, 0)", x.thing(0, 0), Due.UNKNOWN);
        for (int r = 0; r < 3; r++) {
            due.is("drop(" + r + ")", x.drop(r), Due.NULL);
        }
        due.is("back(0)", x.back(0), Due.NOT);
    }

    private static void write() {
        due.about("promise 2");
        HookTies x = new HookTies();
        due.is("write(0)", x.write(0), 1);
        due.is("write(255)", x.write(255), 2);
        due.refused(x, "write(-1)", () -> x.write(-1), Due.OUTSIDE);
        due.refused(x, "write(256)", () -> x.write(256), Due.OUTSIDE);
        due.refused(x, "write(least)", () -> x.write(Integer.MIN_VALUE), Due.OUTSIDE);
        for (int n = 3; n <= 200; n++) {
            due.is("write(32)", x.write(32), n);
        }
        due.refused(x, "write(32)", () -> x.write(32), Due.FULL);
        due.refused(x, "write(256)", () -> x.write(256), Due.OUTSIDE);
        due.is("count(10)", x.count(10), 200);
    }

    private static void erase() {
        due.about("promise 3");
        HookTies x = new HookTies();
        due.is("erase()", x.erase(), 0);
        Due.tell(x, "pan 0");
        due.is("erase()", x.erase(), 5);
        due.is("count(10)", x.count(10), 0);
        Due.tell(x, "house");
        due.is("fault()", x.fault(), Due.NONE);
        due.is("erase()", x.erase(), 5);
        due.is("count(0)", x.count(0), 0);
    }

    private static void fault(String text, int place) {
        HookTies x = new HookTies();
        Due.tell(x, text);
        String told = "of '" + text + "' ";
        due.is(told + "fault()", x.fault(), place);
        if (place == Due.NONE) {
            return;
        }
        due.refused(x, told + "commons()", () -> x.commons(), Due.NOT);
        due.is(told + "count(10)", x.count(10), text.length());
    }

    private static void faultOfShape() {
        due.about("promise 4, shape");
        fault("", 0);
        fault("   ", 3);
        fault("house", Due.NONE);
        fault("commons", Due.NONE);
        fault("  house  ;  house  ", Due.NONE);
        fault(";", 0);
        fault("house;", 6);
        fault("house;  ", 8);
        fault("house;;house", 6);
        fault("house house", 6);
        fault("house 0", 6);
        fault("houses", 0);
        fault("hous", 0);
        fault("House", 0);
        fault("hoUse", 0);
        fault("house,house", 5);
        fault("house\thouse", 5);
        fault("house" + (char) 233, 5);
        fault("house" + (char) 0, 5);
        fault("house;7", 6);
        fault("thing", 0);
        fault("house;pan 0 0 9 9", 16);
        fault("house;pan;house", 9);
        fault("house;pan 0;house", 11);
        fault("house;pan 0 x 9", 12);
        fault("house;pan 0 -1 9", 12);
        fault("house;pan 0 0", 13);
        fault("house;pan 0 0  ", 15);
        fault("house;pan0 0 9", Due.NONE);
        fault("house;pan 0 0 9;want", 20);
        fault("house;pan 0 0 9;want 0", 22);
        fault("house;pan 0 0 9;want 0 0 0", 25);
        fault("house;pan 0 0 9;want 0 0", Due.NONE);
    }

    private static void faultOfBounds() {
        due.about("promise 4, bounds");
        fault("pan 0 0 1", 4);
        fault("house;pan 1 0 1", 10);
        fault("house;pan 0 1 1", 12);
        fault("house;pan 0 0 0", 14);
        fault("house;pan 0 0 00", 14);
        fault("house;pan 0 0 1", Due.NONE);
        fault("house;pan 0 0 99", Due.NONE);
        fault("house;pan 0 0 100", 14);
        fault("house;pan 0 0 001", 14);
        fault("house;pan 000 0 1", 10);
        fault("house;pan 00 00 01", Due.NONE);
        fault("house;pan 0 0 99999999999999", 14);
        fault("want 0 0", 5);
        fault("house;want 0 0", 13);
        fault("house;want 1 0", 11);
        fault("house;pan 0 0 9;want 0 1", 23);
        fault("want 0 0;house", 5);
        fault("house;pan 0 0 9;commons;want 0 0", 29);
        fault("house;commons;pan 0 0 9", 18);
    }

    private static void faultOfMany() {
        due.about("promise 4, too many");
        String houses = "house;house;house;house;house;house;house";
        fault(houses, Due.NONE);
        fault(houses + ";house", 42);
        fault(houses + ";commons;house", Due.NONE);
        String things = "house" + ";cap 0 0 1".repeat(10);
        fault(things, Due.NONE);
        fault(things + ";cap", things.length() + 1);
        fault(things + ";want 0 9", Due.NONE);
        String most = "commons" + ";commons".repeat(23);
        fault(most, Due.NONE);
        fault(most + "  ", Due.NONE);
        fault(most + ";", most.length());
        fault(most + ";house", most.length());
    }

    private static void commons() {
        due.about("promise 5");
        HookTies x = new HookTies();
        Due.tell(x, "house; house;shoe 1 0 7;cap 0 1 88;want 0 1;want 0 0");
        due.is("commons()", x.commons(), 6);
        due.is("count(10)", x.count(10), 0);
        due.is("count(0)", x.count(0), 2);
        due.is("count(1)", x.count(1), 2);
        due.is("thing(0, 0)", x.thing(0, 0), 3);
        due.is("thing(0, 1)", x.thing(0, 1), 1);
        due.is("thing(0, 2)", x.thing(0, 2), 7);
        due.is("thing(0, 3)", x.thing(0, 3), 0);
        due.is("thing(1, 0)", x.thing(1, 0), 4);
        due.is("house(0, 4)", x.house(0, 4), 0);
        due.is("house(1, 4)", x.house(1, 4), Due.NONE);
        due.refused(x, "commons()", () -> x.commons(), Due.NOT);
        Due.tell(x, "commons");
        due.is("commons()", x.commons(), 1);
        due.is("count(0)", x.count(0), 0);
        due.is("count(1)", x.count(1), 0);
        Due.tell(x, "house;pan 0 0 5");
        due.is("commons()", x.commons(), 2);
        due.is("house(0, 4) as at first", x.house(0, 4), Due.NONE);
        HookTies y = new HookTies();
        Due.tell(y, "commons" + ";commons".repeat(23));
        due.is("commons()", y.commons(), 24);
    }

    private static void laterTexts() {
        due.about("promise 5, a later text");
        HookTies x = Due.commons("house;house;pan 0 1 9;spoon 1 0 3;want 0 0");
        x.want(0, 1);
        x.want(1, 1);
        x.year(4);
        x.send(1, 1);
        Due.tell(x, "house;pan 2 1 4;want 2 2");
        due.is("fault()", x.fault(), Due.NONE);
        due.is("count(0)", x.count(0), 2);
        due.is("commons()", x.commons(), 3);
        due.is("count(0)", x.count(0), 3);
        due.is("thing(0, 2)", x.thing(0, 2), 9);
        due.is("thing(1, 3)", x.thing(1, 3), 0);
        due.is("thing(2, 1)", x.thing(2, 1), 2);
        due.is("house(0, 4)", x.house(0, 4), 0);
        due.is("house(1, 4)", x.house(1, 4), Due.NONE);
        due.is("house(2, 4)", x.house(2, 4), 2);
        Due.tell(x, "house;house;house;house;house");
        due.is("fault()", x.fault(), 24);
        x.erase();
        Due.tell(x, "want 0 2");
        due.is("commons()", x.commons(), 1);
        due.is("house(0, 4)", x.house(0, 4), 2);
    }

    private static void behindTexts() {
        due.about("promise 5, behind a text");
        HookTies x = Due.commons("house;house;pan 0 1 9");
        x.year(3);
        x.keep(0);
        x.keep(1);
        x.seen(1, 1, 1);
        x.hooks(0, 3);
        x.hang(0, 0, 1, 0);
        due.is("count(3)", x.count(3), 1);
        Due.tell(x, "house");
        due.is("commons()", x.commons(), 1);
        due.is("count(2)", x.count(2), 0);
        due.is("count(3)", x.count(3), 0);
        due.is("count(7)", x.count(7), 0);
        due.is("count(8)", x.count(8), 0);
        due.is("count(9)", x.count(9), 0);
        due.is("undo()", x.undo(), Due.NOT);
        due.is("back(0)", x.back(0), Due.NOT);
        due.is("back(1)", x.back(1), Due.NOT);
        due.is("drop(0)", x.drop(0), Due.NULL);
        due.is("kinds()", x.kinds(), 31);
    }
}
