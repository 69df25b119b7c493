import java.lang.reflect.Method;
import java.lang.reflect.Modifier;
import java.util.ArrayList;
import java.util.Arrays;
import java.util.Comparator;
import java.util.List;
import java.util.Random;
import java.util.TreeMap;

/** Runs of 512 calls each, the same on HookTies and on Model; the seeds are fixed, so that a fault can be met again. */
public final class ModelTest {
    private static final int RUNS = 400;
    private static final int CALLS = 512;
    private static final String[] WORDS = {"pan", "spoon", "pipe", "shoe", "cap"};
    private static final int[] WILD = {Integer.MIN_VALUE, Integer.MAX_VALUE, -10000, 10000, -9999, 9999, 256, 100, 61, 60, 32, 31, 26, 25};

    // These undo what other calls build up.
    private static final List<String> RARE = List.of("commons", "write", "erase", "forget", "drop", "hooks", "back", "undo", "year");

    private static final List<String> OF_HOOKS =
        List.of("hooks", "hang", "hang", "hang", "hang", "hang", "unhang", "find", "join", "drop", "count");

    private final Random chance;
    private final HookTies real = new HookTies();
    private final Model model = new Model();
    private final List<Method[]> calls = new ArrayList<>();
    private final List<String> done = new ArrayList<>();
    private static final TreeMap<String, TreeMap<Integer, Integer>> met = new TreeMap<>();

    private ModelTest(long seed) throws Exception {
        chance = new Random(seed);
        Method[] all = HookTies.class.getDeclaredMethods();
        Arrays.sort(all, Comparator.comparing(Method::getName));
        for (Method m : all) {
            if (Modifier.isPublic(m.getModifiers())) {
                calls.add(new Method[] {m, Model.class.getDeclaredMethod(m.getName(), m.getParameterTypes())});
            }
        }
    }

    /** With an argument, also tells how often each answer was met. */
    public static void main(String[] args) throws Exception {
        for (int run = 0; run < RUNS; run++) {
            new ModelTest(run).go(run);
        }
        System.out.println(RUNS + " runs of " + CALLS + " calls are as the model's");
        if (args.length > 0) {
            met.forEach((name, answers) -> System.out.println(name + " " + answers));
        }
    }

    private void go(int run) throws Exception {
        if (run % 4 == 3) {
            tell("house;pan 0 0 1;pan 0 0 1;pan 0 0 1");
            same("commons");
        }
        while (run % 4 == 3 && done.size() < CALLS) {
            any(OF_HOOKS.get(chance.nextInt(OF_HOOKS.size())));
        }
        if (run % 10 == 0) {
            tell("commons;house;house;spoon 0 1 9;pan 1 0 9;cap 0 1 77" + ";commons".repeat(run / 10 % 30));
            same("fault");
            same("commons");
            for (int i = 0; i < 84; i++) {
                same("year", 12);
            }
        }
        while (done.size() < CALLS) {
            int dice = chance.nextInt(100);
            if (dice < 1 || done.isEmpty()) {
                tell(text());
                same("fault");
                same("commons");
            } else if (dice < 2) {
                tell(spoiled(text()));
                same("fault");
                same("commons");
                same("erase");
            } else {
                any(calls.get(chance.nextInt(calls.size()))[0].getName());
            }
        }
    }

    private void any(String name) throws Exception {
        int[] values = new int[places(name)];
        for (int i = 0; i < values.length; i++) {
            values[i] = value(name, i);
        }
        if (!RARE.contains(name) || chance.nextInt(8) == 0) {
            same(name, values);
        }
    }

    private int places(String name) {
        for (Method[] pair : calls) {
            if (pair[0].getName().equals(name)) {
                return pair[0].getParameterCount();
            }
        }
        throw new IllegalStateException(name);
    }

    private int value(String name, int place) {
        int dice = chance.nextInt(60);
        if (dice == 0) {
            return WILD[chance.nextInt(WILD.length)];
        }
        if (dice < 4) {
            return chance.nextInt(16) - 4;
        }
        int house = chance.nextInt(Math.max(1, model.count(0)));
        int thing = chance.nextInt(Math.max(1, model.count(1)));
        return switch (name) {
            case "write" -> chance.nextInt(256);
            case "send" -> place == 0 ? thing : house;
            case "want" -> place == 0 ? house : chance.nextInt(6) == 0 ? -1 : thing;
            case "year" -> 1 + chance.nextInt(chance.nextInt(6) == 0 ? 12 : 2);
            case "patch" -> place == 0 ? thing : 1 + chance.nextInt(chance.nextInt(3) == 0 ? 99 : 9);
            case "behind" -> place == 0 ? thing : chance.nextInt(place == 1 ? 61 : 2);
            case "pieces" -> chance.nextInt(chance.nextBoolean() ? 3 : 61);
            case "whole" -> chance.nextInt(place == 0 ? 5 : 2);
            case "knit" -> chance.nextInt(5) - 1;
            case "seen" -> place == 0 ? 1 + chance.nextInt(chance.nextBoolean() ? 2 : 20) : chance.nextInt(place == 1 ? 2 : 7);
            case "hooks" -> chance.nextInt(place == 0 ? 3 : 13);
            case "hang" -> chance.nextInt(place == 1 ? 1 + chance.nextInt(6) : place == 3 ? 4 : 3);
            case "unhang" -> chance.nextInt(place == 1 ? 1 + chance.nextInt(6) : 3);
            case "find" -> chance.nextInt(place == 2 ? 4 : 3);
            case "join", "drop" -> chance.nextInt(3);
            case "keep", "back" -> chance.nextInt(2);
            case "count" -> chance.nextInt(11);
            case "house" -> place == 0 ? house : chance.nextInt(5);
            case "thing" -> place == 0 ? thing : chance.nextInt(5);
            case "as" -> place == 0 ? thing : chance.nextInt(6);
            default -> house;
        };
    }

    /** A text that fits what is told, more or less. */
    private String text() {
        StringBuilder text = new StringBuilder();
        int houses = model.count(0);
        int things = model.count(1);
        if (chance.nextInt(3) > 0) {
            text.append("commons;");
            houses = 0;
            things = 0;
        }
        int more = chance.nextInt(8);
        for (int i = 0; i < more && (houses < 7 || chance.nextInt(9) == 0); i++, houses++) {
            text.append(chance.nextInt(9) == 0 ? " house ;" : "house;");
        }
        more = chance.nextInt(11);
        for (int i = 0; i < more && text.length() < 180 && houses > 0 && (things < 10 || chance.nextInt(9) == 0); i++, things++) {
            int owner = chance.nextInt(houses);
            int at = chance.nextInt(4) == 0 ? owner : chance.nextInt(houses);
            int worth = 1 + chance.nextInt(chance.nextBoolean() ? 99 : 9);
            text.append(WORDS[chance.nextInt(5)]).append(' ').append(owner).append(' ').append(at).append(' ').append(worth).append(';');
        }
        for (int i = 0; i < 4 && text.length() < 188 && houses > 0 && things > 0; i++) {
            text.append("want ").append(chance.nextInt(houses)).append(' ').append(chance.nextInt(things)).append(';');
        }
        if (text.length() > 0) {
            text.setLength(text.length() - 1);
        }
        return text.toString();
    }

    private String spoiled(String text) {
        StringBuilder spoiled = new StringBuilder(text);
        for (int i = chance.nextInt(3); i >= 0 && spoiled.length() > 0; i--) {
            int place = chance.nextInt(spoiled.length());
            String letters = " ;0129zh,A" + (char) chance.nextInt(256);
            char letter = letters.charAt(chance.nextInt(letters.length()));
            switch (chance.nextInt(3)) {
                case 0 -> spoiled.setCharAt(place, letter);
                case 1 -> spoiled.insert(place, letter);
                default -> spoiled.deleteCharAt(place);
            }
        }
        return spoiled.toString();
    }

    private void tell(String text) throws Exception {
        same("erase");
        // A whole text is one step of a run here, or runs would be nothing but letters.
        for (int i = 0; i < text.length(); i++) {
            real.write(text.charAt(i));
            model.write(text.charAt(i));
        }
        done.add("(text) " + text);
        same("count", 10);
    }

    private void same(String name, int... values) throws Exception {
        Object[] given = Arrays.stream(values).boxed().toArray();
        for (Method[] pair : calls) {
            if (!pair[0].getName().equals(name)) {
                continue;
            }
            int got = (Integer) pair[0].invoke(real, given);
            int want = (Integer) pair[1].invoke(model, given);
            done.add(name + Arrays.toString(values) + " = " + want);
            met.computeIfAbsent(name, n -> new TreeMap<>()).merge(want, 1, Integer::sum);
            if (got != want) {
                done.forEach(System.out::println);
                System.out.println("answered " + got + ", the model says " + want);
                System.exit(1);
            }
        }
    }
}
