import java.lang.reflect.InvocationTargetException;
import java.lang.reflect.Method;
import java.util.ArrayList;
import java.util.Comparator;
import java.util.List;
import java.util.Random;

/** Random runs of calls, the same on the program and on Model; also that no call throws, with any numbers. */
public final class ModelTest {
    private static final int[] WILD = {Integer.MIN_VALUE, Integer.MAX_VALUE, -1, 0, 1, 500, -500, 501, -501, 100, 2000,
        2001, 40000, -40000, 40001, 999, 1000, 60, 61, 36, 35, Integer.MIN_VALUE + 1, Integer.MAX_VALUE - 1};

    private static final List<String> RARE = List.of("way", "home", "tear", "leave", "lose", "sheet", "digest");
    private static final List<String> NEAR = List.of("team", "stage", "run", "roster", "pulls", "block", "enter",
        "stuck", "gone", "where", "task", "crews", "late", "latest", "type", "put", "get", "copy", "measure", "turn");

    private static final int MOST_CALLS = 512;

    private final Random random;
    private final List<Method> calls = new ArrayList<>();
    private FloatTowers x;
    private Model y;
    private String told = "";
    private int made;

    private ModelTest(long seed) {
        random = new Random(seed);
        for (Method m : FloatTowers.class.getMethods()) {
            if (m.getDeclaringClass() == FloatTowers.class) calls.add(m);
        }
        calls.sort(Comparator.comparing(Method::getName));
    }

    public static void main(String[] args) throws ReflectiveOperationException {
        int runs = args.length > 0 ? Integer.parseInt(args[0]) : 700;
        for (int run = 0; run < runs; run++) {
            ModelTest test = new ModelTest(run);
            test.run(run, run % 7);
        }
        new ModelTest(1).all();
        Due.close("ModelTest");
    }

    private int from(int lo, int hi) {
        return lo + random.nextInt(hi - lo + 1);
    }

    /** Arguments that mostly may be, by the call's name; some wild ones among them. */
    private Object[] arguments(Method m, int kind) {
        int size = kind % 2 == 0 ? 40 : 15;
        Object[] a = switch (m.getName()) {
            case "turn" -> new Object[] {from(-1, 36), from(-1, 2)};
            case "house" -> with(boxOf(size * 2), from(1, 25), from(1, 25), from(0, 9));
            case "cut" -> new Object[] {from(0, 6), from(0, 9)};
            case "kerb" -> boxOf(size * 2);
            case "wire" -> with(boxOf(size * 2), from(1, 30));
            case "down" -> new Object[] {from(0, 4), random.nextBoolean()};
            case "slope" -> with(boxOf(60), from(-200, 200), from(-200, 200), random.nextBoolean());
            case "rain" -> new Object[] {random.nextInt(4) == 0};
            case "ground" -> new Object[] {65 * from(-60, 60) + from(-1, 1), 65 * from(-60, 60), from(0, 3)};
            case "car" -> new Object[] {from(2, 8), from(2, 5), from(1, 99), from(0, 20)};
            case "storey" -> new Object[] {from(0, 3), from(1, 30), from(1, 9), from(1, 6)};
            case "stand" -> new Object[] {from(0, 3), from(-size, size), from(-size, size), from(0, 35)};
            case "leave", "pull", "need", "may", "woods", "perform" -> new Object[] {from(0, 3)};
            case "about" -> new Object[] {from(0, 3), from(0, 9)};
            case "wheel" -> new Object[] {from(0, 3), from(0, 3), from(0, 1)};
            case "feet" -> new Object[] {from(1, 20)};
            case "meets" -> new Object[] {from(0, 3), from(0, 10)};
            case "move" -> new Object[] {from(0, 3), from(0, 9)};
            case "way" -> with(new Object[] {from(0, 3)}, goalOf());
            case "step" -> new Object[] {from(0, 6)};
            case "rope" -> new Object[] {from(0, 3), from(0, 3), from(0, 150), from(1, 60) / from(1, 9) + 1, from(-9, 9)};
            case "set" -> new Object[] {from(0, 2), from(1, 30)};
            case "tight" -> new Object[] {from(0, 3), from(0, 3)};
            case "team" -> new Object[] {from(1, 100)};
            case "stage" -> new Object[] {from(0, 150)};
            case "run" -> new Object[] {from(1, 3)};
            case "pulls" -> new Object[] {from(0, 5)};
            case "block" -> new Object[] {from(0, 19), from(1, 60), random.nextBoolean()};
            case "enter" -> new Object[] {from(0, 19), from(0, 19), from(0, 200)};
            case "stuck" -> new Object[] {from(0, 3), from(0, 300), from(0, 900)};
            case "gone" -> new Object[] {from(0, 3)};
            case "where" -> new Object[] {from(0, 3), from(0, 600)};
            case "task" -> new Object[] {from(1, 90), 10 * from(0, 40)};
            case "crews" -> new Object[] {from(1, 4)};
            case "late" -> new Object[] {from(0, 11)};
            case "latest" -> new Object[] {from(0, 1)};
            case "type" -> new Object[] {(int) "dblrwf;0123456789 x".charAt(random.nextInt(19))};
            case "sheet" -> new Object[] {from(0, 3), from(0, 2), from(0, 60)};
            case "lose", "measure" -> new Object[] {from(0, 3)};
            case "put" -> new Object[] {from(0, 3), from(0, 2), from(0, 60), from(-100000, 100000)};
            case "get" -> new Object[] {from(0, 3), from(0, 2), from(0, 60)};
            case "copy" -> new Object[] {from(0, 3), from(-1, 30), from(0, 3), from(-1, 30), from(-1, 40)};
            case "count" -> new Object[] {from(-1, 13)};
            default -> new Object[0];
        };
        if (random.nextInt(12) == 0) {
            makeWild(a);
        }
        return a;
    }

    private void makeWild(Object[] a) {
        for (int i = 0; i < a.length; i++) {
            if (a[i] instanceof Integer && random.nextInt(2) == 0) {
                a[i] = random.nextInt(3) == 0 ? from(-1100, 1100) : WILD[random.nextInt(WILD.length)];
            }
        }
    }

    private Object[] boxOf(int far) {
        int x = from(-far, far);
        int y = from(-far, far);
        return new Object[] {x, y, x + from(1, 30), y + from(1, 30)};
    }

    private Object[] goalOf() {
        int x = from(-50, 10);
        int y = from(-50, 10);
        return new Object[] {x, y, x + from(8, 99), y + from(8, 99), from(0, 35)};
    }

    private static Object[] with(Object[] first, Object... more) {
        Object[] all = java.util.Arrays.copyOf(first, first.length + more.length);
        System.arraycopy(more, 0, all, first.length, more.length);
        return all;
    }

    private Method next(int kind) {
        for (int i = 0; i < 1000; i++) {
            Method m = calls.get(random.nextInt(calls.size()));
            String n = m.getName();
            boolean rare = RARE.contains(n) || (kind > 0 && "house wire kerb car storey".contains(n));
            if (kind >= 2 && NEAR.contains(n) && random.nextInt(2) == 0) {
                continue;
            }
            if (!rare || random.nextInt(n.equals("way") ? 2 : kind > 1 && n.equals("house") ? 60 : 10) == 0) return m;
        }
        return calls.get(0);
    }

    private void run(int run, int kind) throws ReflectiveOperationException {
        told = "run " + run + ": ";
        x = new FloatTowers();
        y = new Model();
        made = 0;
        int wrong = Due.wrong();
        setUp(kind);
        while (made < MOST_CALLS - 60 && Due.wrong() == wrong) {
            if (random.nextInt(25) == 0) {
                typeOrders();
            } else if (kind < 2 && random.nextInt(25) == 0) {
                writeHouses();
            } else {
                Method m = next(kind);
                both(m.getName(), arguments(m, kind));
            }
        }
        both("digest");
        both("digest");
        Due.is(told + "no more calls than an object is used for", Math.max(0, made - MOST_CALLS), 0);
    }

    /** Cars that stand near one another, with few things about them, so that most moves are close to something. */
    private void setUp(int kind) throws ReflectiveOperationException {
        for (int car = 0; car < kind; car++) {
            both("car", from(2, 6), 3, 50, from(0, 20));
            int high = 0;
            for (int storeys = from(1, 4); storeys > 0; storeys--) {
                high += from(1, 9);
                both("storey", car, high, from(1, 5), 2);
            }
            for (int tries = 0; tries < 4; tries++) {
                int far = kind == 5 ? 500 : 20;
                both("stand", car, kind == 5 ? 500 * from(-1, 1) : from(-far, far), from(-far, far), from(0, 35));
            }
        }
        for (int i = 0; i < kind; i++) {
            int x0 = from(-40, 40);
            int y0 = from(-40, 40);
            int wide = from(1, 9);
            int high = from(1, 20);
            if (i < 2) {
                both("house", x0, y0, x0 + wide, y0 + wide, high, 20 - high + 1, wide);
            }
            both("wire", y0, x0, y0 + 5, x0 + wide, high);
            both("kerb", -y0, x0, -y0 + 3, x0 + 2);
        }
    }

    private void both(String name, Object... a) throws ReflectiveOperationException {
        Method m = calls.stream().filter(c -> c.getName().equals(name)).findFirst().orElseThrow();
        long due = ((Number) Model.class.getDeclaredMethod(name, m.getParameterTypes()).invoke(y, a)).longValue();
        made++;
        Due.is(told + name + java.util.Arrays.toString(a), answer(x, m, a), due);
    }

    private long answer(FloatTowers it, Method m, Object[] a) throws ReflectiveOperationException {
        try {
            return ((Number) m.invoke(it, a)).longValue();
        } catch (InvocationTargetException e) {
            Due.is(told + m.getName() + java.util.Arrays.toString(a) + " threw " + e.getCause(), 1, 0);
            return 0;
        }
    }

    private void typeOrders() throws ReflectiveOperationException {
        both("tear");
        StringBuilder t = new StringBuilder();
        for (int part = from(1, 8); part > 0; part--) {
            char letter = "dblrwf".charAt(random.nextInt(6));
            boolean fromNone = "lrw".indexOf(letter) >= 0;
            int number = random.nextInt(40) == 0 ? from(0, 99) : from(fromNone ? 0 : 1, fromNone ? 3 : 6);
            t.append(letter).append(number < 10 && random.nextInt(9) == 0 ? "0" : "").append(number);
            if (part > 1 || random.nextInt(30) == 0) {
                t.append(';');
            }
        }
        for (int i = 0; i < t.length(); i++) {
            both("type", (int) t.charAt(i));
        }
        both("fault");
        for (int car = -1; car < 4; car++) {
            both("perform", car);
        }
    }

    private void writeHouses() throws ReflectiveOperationException {
        int form = from(0, 2);
        int n = from(0, 30);
        both("sheet", 0, form, n);
        for (int i = 0; i < n; i++) {
            both("put", 0, form, i, i % 7 < 2 ? from(-120, 120) : i % 7 < 4 ? from(60, 200) : from(1, 9));
        }
        both("measure", 0);
    }

    /** Every call with wild numbers in every place, on an object that has something of everything. */
    private void all() throws ReflectiveOperationException {
        for (Method m : calls) {
            x = new FloatTowers();
            y = new Model();
            made = 0;
            setUp(4);
            typeOrders();
            Class<?>[] types = m.getParameterTypes();
            for (; made < MOST_CALLS; made++) {
                Object[] a = new Object[types.length];
                for (int i = 0; i < a.length; i++) {
                    a[i] = types[i] == boolean.class ? (Object) random.nextBoolean() : (Object) WILD[random.nextInt(WILD.length)];
                }
                answer(x, m, a);
            }
        }
    }
}
