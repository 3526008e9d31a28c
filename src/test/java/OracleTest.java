import java.lang.reflect.InvocationTargetException;
import java.lang.reflect.Method;
import java.util.ArrayList;
import java.util.Arrays;
import java.util.List;
import java.util.Random;

/** Runs by draws on a new object, each call held against the oracle: answers and throws. */
public final class OracleTest {
    private static final String[] NAMES = {
        "fault", "wish", "weather", "holds", "why", "granted", "plans", "together", "quarrel", "foes", "most",
        "nights", "hearts", "follows", "sure", "expected", "bestChance", "served", "share", "gains", "bestRule",
        "wants", "readings", "night", "thank", "owes", "withdraw", "again", "undo", "judge", "perform", "season",
        "holding", "grants", "tray", "write", "pour", "image", "restore", "count"
    };

    private static int wrong;
    private static long calls;
    private static long thrown;

    private final Random draws;
    private final RainWishes real = new RainWishes();
    private final Oracle oracle = new Oracle();
    private final Texts texts;
    private final List<String> story = new ArrayList<>();
    private final int mostCells;
    private int made;

    OracleTest(long seed, int mostCells) {
        draws = new Random(seed);
        texts = new Texts(draws);
        this.mostCells = mostCells;
    }

    public static void main(String[] args) {
        int runs = args.length > 0 ? Integer.parseInt(args[0]) : 1500;
        for (int run = 0; run < runs && wrong < 5; run++) {
            int cells = run % 40 == 0 ? 12 : run % 4 == 0 ? 8 : 6;
            new OracleTest(7777L * run + 13, cells).run(run);
        }
        System.out.println("OracleTest: " + calls + " calls, of which " + thrown + " threw, " + wrong + " wrong");
        if (wrong != 0) {
            System.exit(1);
        }
    }

    private void run(int run) {
        int most = mostCells > 10 ? 80 : 300;
        boolean fine = true;
        if (draws.nextInt(8) != 0) {
            fine = tellRight();
        }
        while (fine && made < most) {
            int kind = draws.nextInt(60);
            if (kind == 0) {
                fine = tellRight();
            } else if (kind < 3) {
                fine = tell(texts.spoilt(mostCells));
            } else if (kind == 3) {
                fine = tell(texts.jumble());
            } else if (kind < 8) {
                fine = fillTray();
            } else {
                fine = drawCall();
            }
        }
        if (!fine) {
            System.out.println("run " + run + ": " + String.join("; ", story));
        }
    }

    private boolean tellRight() {
        return tell(draws.nextInt(3) == 0 ? texts.right(mostCells) : texts.quarrelsome(mostCells));
    }

    /** The text as ints; sometimes a little more or less of it is told. */
    private boolean tell(String text) {
        int n = text.length();
        String full = text + " ".repeat((20 - n % 20) % 20);
        for (int k = 0; k + 20 <= full.length(); k += 20) {
            Object[] five = new Object[5];
            for (int j = 0; j < 5; j++) {
                int v = 0;
                for (int b = 0; b < 4; b++) {
                    v = v << 8 | full.charAt(k + 4 * j + b);
                }
                five[j] = v;
            }
            if (!same("feed", five)) {
                return false;
            }
        }
        if (draws.nextInt(30) == 0) {
            n = draws.nextInt(full.length() + 40) - 10;
        }
        return same("sky", n) && same("fault", 0) && same("fault", 1) && same("count", 9);
    }

    private boolean fillTray() {
        int tray = draws.nextInt(4);
        int sort = draws.nextInt(8) == 0 ? 0 : draws.nextInt(4);
        int kind = draws.nextInt(4);
        int many = kind == 0 ? 2 * draws.nextInt(5) + 1 : kind == 1 ? 1 + draws.nextInt(6) : draws.nextInt(13);
        if (!same("tray", tray, sort, many)) {
            return false;
        }
        int cells = Math.max(1, oracle.count(1) * oracle.count(2));
        for (int k = 0; k < many; k++) {
            long v;
            if (kind == 0) {
                v = k % 2 == 0 ? draws.nextInt(2 * cells) : draws.nextInt(2);
            } else if (kind == 1) {
                v = draws.nextInt(100);
            } else if (kind == 2) {
                v = draws.nextInt(2 << cells);
            } else {
                v = draws.nextInt(1 << cells) & draws.nextInt(1 << cells);
            }
            if (draws.nextInt(150) == 0) {
                v = draws.nextLong();
            }
            if (!same("write", tray, k, v)) {
                return false;
            }
        }
        return kind == 0 ? same("readings", tray, draws.nextInt(4))
                : kind == 1 ? same("holding", tray, 1 + draws.nextInt(4), draws.nextInt(5))
                : kind == 2 ? same("wants", tray, draws.nextInt(2)) && same("wants", tray, 10 + draws.nextInt(3))
                : same("judge", tray, draws.nextInt(4)) && (draws.nextInt(3) != 0 || same("perform", tray));
    }

    private boolean drawCall() {
        String name = NAMES[draws.nextInt(NAMES.length)];
        Method method = find(RainWishes.class, name);
        Class<?>[] types = method.getParameterTypes();
        Object[] args = new Object[types.length];
        for (int k = 0; k < types.length; k++) {
            if (types[k] == boolean.class) {
                args[k] = draws.nextBoolean();
            } else if (types[k] == long.class) {
                args[k] = draws.nextInt(3) == 0 ? draws.nextLong() : (long) draws.nextInt(100);
            } else {
                args[k] = drawInt(name, k);
            }
        }
        return same(name, args);
    }

    private int drawInt(String name, int k) {
        if (draws.nextInt(40) == 0) {
            int[] odd = {-1, Integer.MIN_VALUE, Integer.MAX_VALUE, 7, 31, 32, 100, 101, 4096, -100};
            return odd[draws.nextInt(odd.length)];
        }
        int cells = oracle.count(1) * oracle.count(2);
        int wishes = Math.max(1, oracle.count(5));
        switch (name) {
            case "weather": case "granted": case "why": case "night":
                return draws.nextInt(1 << cells) & draws.nextInt(1 << cells);
            case "expected":
                return k == 1 ? draws.nextInt(101)
                        : draws.nextInt(1 << cells) & draws.nextInt(1 << cells) & draws.nextInt(1 << cells);
            case "holds":
                return k == 0 ? draws.nextInt(wishes) : draws.nextInt(1 << cells);
            case "together": case "quarrel": case "sure":
                int set = 0;
                for (int i = 0; i < wishes; i++) {
                    boolean open = oracle.count(5) > 0 && oracle.wish(i, 3) == 1;
                    set |= (open || draws.nextInt(40) == 0) && draws.nextBoolean() ? 1 << i : 0;
                }
                return set;
            case "bestChance":
                return draws.nextInt(101);
            case "wish": case "foes": case "hearts": case "follows": case "withdraw": case "again":
                return k == 0 ? draws.nextInt(wishes) : draws.nextInt(name.equals("wish") ? 6 : 2);
            case "gains": case "share": case "served":
                return name.equals("served") || k == 1 ? draws.nextInt(4) : draws.nextInt(k == 0 ? 3 : 2);
            case "season":
                return k == 0 ? draws.nextInt() : 1 + draws.nextInt(4);
            case "thank":
                return k == 0 ? draws.nextInt(6) : 1 + draws.nextInt(20);
            case "wants":
                return k == 0 ? draws.nextInt(4) : new int[] {0, 1, 10, 11, 12, 2, 13}[draws.nextInt(7)];
            case "tray":
                return draws.nextInt(k == 2 ? 33 : 4);
            case "write":
                return draws.nextInt(k == 1 ? 12 : 4);
            case "undo":
                return 1 + draws.nextInt(3);
            case "holding": case "grants":
                return k == 0 ? draws.nextInt(4) : draws.nextInt(5);
            case "count":
                return draws.nextInt(11);
            default:
                return draws.nextInt(k == 0 ? 6 : 4);
        }
    }

    private static Method find(Class<?> type, String name) {
        for (Method m : type.getDeclaredMethods()) {
            if (m.getName().equals(name) && !m.isSynthetic()
                    && (type != RainWishes.class || java.lang.reflect.Modifier.isPublic(m.getModifiers()))) {
                return m;
            }
        }
        throw new IllegalStateException(name);
    }

    private boolean same(String name, Object... args) {
        String got = answer(real, find(RainWishes.class, name), args);
        String due = answer(oracle, find(Oracle.class, name), args);
        calls++;
        made++;
        thrown += due.startsWith("throws.") ? 1 : 0;
        String call = name + Arrays.toString(args);
        story.add(call + "=" + got);
        if (!got.equals(due)) {
            wrong++;
            System.out.println(call + " answered " + got + ", due is " + due);
            return false;
        }
        return true;
    }

    private static String answer(Object on, Method method, Object[] args) {
        try {
            return String.valueOf(method.invoke(on, args));
        } catch (InvocationTargetException e) {
            return "throws." + e.getCause().getClass().getSimpleName();
        } catch (IllegalAccessException e) {
            throw new IllegalStateException(e);
        }
    }
}
