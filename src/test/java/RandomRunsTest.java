import java.lang.reflect.Method;
import java.lang.reflect.Modifier;
import java.util.ArrayList;
import java.util.Arrays;
import java.util.HashMap;
import java.util.List;
import java.util.Map;
import java.util.Random;

/** Runs of calls by chance (always the same): the program and the plain model answer alike. */
public final class RandomRunsTest {
    private static final int RUNS = 400;
    private static final int CALLS = 512;
    private static final int[] WILD = {-1, -2, 5, 6, 7, 8, 9, 10, 15, 16, 24, 40, 41, 255, 256,
        Integer.MAX_VALUE, Integer.MIN_VALUE, Integer.MAX_VALUE - 5};

    private final Random chance;
    private final TheOneWithout program = new TheOneWithout();
    private final PlainModel model = new PlainModel();
    private final List<String> log = new ArrayList<>();
    private final Map<String, Method> programCalls;
    private final Map<String, Method> modelCalls;
    private static final Map<String, Integer> USED = new HashMap<>();
    private int wrong = 0;

    private RandomRunsTest(long seed, Map<String, Method> programCalls,
            Map<String, Method> modelCalls) {
        this.chance = new Random(seed);
        this.programCalls = programCalls;
        this.modelCalls = modelCalls;
    }

    public static void main(String[] args) throws Exception {
        Due.watch();
        int runs = args.length > 1 ? Integer.parseInt(args[1]) : RUNS;
        Map<String, Method> ofProgram = callsOf(TheOneWithout.class);
        Map<String, Method> ofModel = callsOf(PlainModel.class);
        int wrong = 0;
        for (int run = 0; run < runs && wrong == 0; run++) {
            RandomRunsTest r = new RandomRunsTest(run, ofProgram, ofModel);
            r.go();
            wrong += r.wrong;
        }
        for (String name : ofProgram.keySet()) {
            if (USED.getOrDefault(name, 0) == 0) {
                wrong++;
                System.out.println(name + " was never called");
            }
        }
        if (wrong != 0) {
            System.exit(1);
        }
    }

    private static Map<String, Method> callsOf(Class<?> c) {
        Map<String, Method> found = new HashMap<>();
        for (Method m : c.getDeclaredMethods()) {
            boolean isCall = c == PlainModel.class ? !Modifier.isPrivate(m.getModifiers())
                    : Modifier.isPublic(m.getModifiers());
            if (isCall && !m.isSynthetic()) {
                m.setAccessible(true);
                found.put(m.getName(), m);
            }
        }
        return found;
    }

    /** Behind the last call of a run what is answered is free: nothing is called any more. */
    private void call(String name, long... args) throws Exception {
        if (log.size() >= CALLS) {
            return;
        }
        Method p = programCalls.get(name);
        Method m = modelCalls.get(name);
        Object[] told = new Object[args.length];
        for (int i = 0; i < args.length; i++) {
            boolean isLong = p.getParameterTypes()[i] == long.class;
            told[i] = isLong ? (Object) args[i] : (Object) (int) args[i];
        }
        long want = ((Number) m.invoke(model, told)).longValue();
        long got = ((Number) p.invoke(program, told)).longValue();
        log.add(name + Arrays.toString(told) + " " + got);
        USED.merge(name, 1, Integer::sum);
        if (got != want) {
            wrong++;
            for (String line : log) {
                System.out.println(line);
            }
            System.out.println("the model answers " + want);
        }
    }

    private int below(int n) {
        return chance.nextInt(n);
    }

    private void go() throws Exception {
        int style = below(4);
        if (below(5) > 0) {
            lay(style);
        }
        while (log.size() < CALLS && wrong == 0) {
            if (below(25) == 0) {
                lay(style);
            } else if (below(20) == 0) {
                readText();
            } else if (style == 3 && below(6) == 0) {
                partlyKnown();
            } else {
                one();
            }
        }
    }

    /** A tray with something to find out: few unlike sorts or many, with looks alike or unlike. */
    private void lay(int style) throws Exception {
        int n = 2 + below(5);
        call("cups", n);
        call("law", style == 0 ? below(3) : 2 - below(2));
        int unlike = 1 + below(6);
        int numbers = below(6) == 0 ? 10 : 1 + below(4);
        for (int s = 0; s < 6; s++) {
            for (int k = 0; k < 3; k++) {
                call("sort", s, k, below(numbers));
            }
        }
        int shelf = below(8);
        call("row", shelf, below(4), n + below(2));
        for (int p = 0; p < n; p++) {
            call("set", shelf, p, below(unlike));
        }
        call("pour", shelf);
        for (int g = 0; g < n; g++) {
            call("guest", g, below(unlike + 1) - 1, below(10));
        }
        for (int i = below(3); i > 0; i--) {
            call("teller", below(6), below(10));
        }
        if (below(2) == 0) {
            call("stairs");
        }
        for (int i = below(4); i > 0; i--) {
            call("look", below(n), below(4));
        }
    }

    /** Signs that some sorts share leave worlds of which each place tells something else. */
    private void partlyKnown() throws Exception {
        int n = 3 + below(4);
        call("cups", n);
        call("law", 2);
        int shelf = below(8);
        call("row", shelf, 0, n);
        for (int p = 0; p < n; p++) {
            call("set", shelf, p, p == n - 1 ? below(6) : p);
        }
        call("pour", shelf);
        for (int s = 0; s < 6; s++) {
            for (int k = 0; k < 3; k++) {
                call("sort", s, k, below(2));
            }
        }
        for (int i = n - 1 + below(n); i > 0; i--) {
            call("look", below(n), below(3));
        }
        call("apart");
        for (int i = 0; i < 6; i++) {
            call("fewest", 1 + below(15));
            call("next", 1 + below(15));
        }
        for (int p = 0; p < n; p++) {
            call("sorts", p);
            call("split", p, 3, 1);
        }
    }

    private int small(int n) {
        return below(24) == 0 ? WILD[below(WILD.length)] : below(n);
    }

    private int place() throws Exception {
        return small(model.status(0));
    }

    private void one() throws Exception {
        int n = model.status(0);
        String[] names = {"row", "set", "copy", "element", "holds", "show", "says", "cups", "pour",
            "law", "sort", "guest", "teller", "sign", "forget", "feed", "wipe", "stair", "worlds",
            "world", "sorts", "likely", "known", "split", "next", "fewest", "apart", "marks",
            "judge", "handing", "best", "mind", "tells", "odd", "turned", "look", "tries",
            "stairs", "truth", "stands", "seed", "image", "back", "status", "hand"};
        String name = names[below(names.length)];
        switch (name) {
            case "row": call(name, small(8), small(5), small(41)); break;
            case "set": call(name, small(8), small(7), below(4) == 0 ? chance.nextLong()
                    : small(n)); break;
            case "copy": call(name, small(8), small(8), small(7), small(7), small(8)); break;
            case "element": call(name, small(8), small(7)); break;
            case "holds": call(name, small(8)); break;
            case "show": call(name, small(8), small(5) - 1); break;
            case "says": showAndSay(); break;
            case "cups": if (below(6) == 0) call(name, small(9)); break;
            case "pour": if (below(3) == 0) call(name, small(8)); break;
            case "law": call(name, small(3)); break;
            case "sort": call(name, small(6), small(3), small(4)); break;
            case "guest": call(name, place(), small(7) - 1, small(10)); break;
            case "teller": call(name, small(6), small(10)); break;
            case "sign": call(name, place(), small(4), small(4)); break;
            case "feed": call(name, small(256)); break;
            case "worlds": call(name, small(2)); break;
            case "world": call(name, small(30), place()); break;
            case "likely": call(name, place(), small(2)); break;
            case "split": call(name, place(), small(4), small(2)); break;
            case "next": call(name, small(16)); break;
            case "fewest": call(name, small(16)); break;
            case "marks": call(name, small(16)); break;
            case "judge": call(name, small(8)); break;
            case "handing": call(name, small(8), small(3)); break;
            case "hand": hand(n); break;
            case "best": call(name, place() - below(2)); break;
            case "mind": call(name, place(), place()); break;
            case "sorts": case "odd": case "stands": call(name, place()); break;
            case "tells": case "tries": call(name, small(5)); break;
            case "look": call(name, place(), small(4)); break;
            case "truth": if (below(4) == 0) call(name, small(8)); break;
            case "seed": call(name, chance.nextInt()); break;
            case "back": if (below(3) == 0) call(name); break;
            case "status": call(name, small(18)); break;
            default: call(name); break;
        }
    }

    private void showAndSay() throws Exception {
        int s = below(8);
        if (below(3) > 0) {
            call("show", s, small(5) - 1);
        }
        call("says", s == 0 ? small(8) : s, small(6));
    }

    /** A handing that is right, or nearly so. */
    private void hand(int n) throws Exception {
        int s = below(8);
        call("row", s, below(4), n + below(2));
        List<Integer> places = new ArrayList<>();
        for (int p = 0; p < n; p++) {
            places.add(below(p + 1), p);
        }
        for (int g = 0; g < n; g++) {
            call("set", s, g, below(20) == 0 ? small(7) : places.get(g));
        }
        call("judge", s);
        call("handing", s, below(3));
        call("handing", s, 1);
    }

    private void readText() throws Exception {
        StringBuilder b = new StringBuilder();
        int n = model.status(0);
        for (int i = below(4); i >= 0; i--) {
            int which = below(9);
            if (which == 0) {
                n = 2 + below(5);
                b.append("cups ").append(n);
            } else if (which == 1) {
                b.append("pour");
                for (int p = 0; p < n; p++) {
                    b.append(' ').append(below(4));
                }
            } else if (which == 2) {
                b.append("law").append(below(3));
            } else if (which < 5) {
                b.append("sort ").append(below(6)).append("  ").append(below(10)).append(' ')
                        .append(below(10)).append(" 0").append(below(10));
            } else if (which < 7) {
                b.append("guest ").append(below(n)).append(' ').append(below(6)).append(' ')
                        .append(below(10));
            } else {
                b.append("sign ").append(below(n)).append(' ').append(below(4)).append(' ')
                        .append(below(3));
            }
            b.append(i > 0 ? below(2) == 0 ? ";" : " ; " : below(9) == 0 ? "  " : "");
        }
        if (below(2) == 0) {
            int at = below(b.length());
            String[] odd = {"", "a", "7", ";", "?", " ", "100", "\n", "\u00e9", "z 3", "law"};
            int cut = below(3) == 0 ? b.length() : Math.min(b.length(), at + below(3));
            b.replace(at, cut, odd[below(odd.length)]);
        }
        for (int i = 0; i < b.length() && log.size() < CALLS; i++) {
            call("feed", b.charAt(i));
        }
        call("stair");
        call("worlds", 1);
    }
}
