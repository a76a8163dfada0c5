import java.lang.reflect.InvocationTargetException;
import java.lang.reflect.Method;
import java.util.ArrayList;
import java.util.Comparator;
import java.util.List;
import java.util.Random;

/** Random runs of calls, the same on the program and on Model; also that no call throws, with any numbers. */
public final class ModelTest {
    private static final int[] WILD = {Integer.MIN_VALUE, Integer.MAX_VALUE, -1, 0, 1, 500, -500, 501, -501, 100, 2000,
        2001, 40000, -40000, 40001, 999, 1000, 60, 61, 36, 35, Integer.MIN_VALUE + 1, Integer.MAX_VALUE - 1};

    private static final List<String> RARE = List.of("way", "home", "tear", "leave", "lose", "sheet", "digest");
    private static final List<String> NEAR = List.of("team", "stage", "run", "roster", "pulls", "block", "enter",
        "stuck", "gone", "where", "task", "crews", "late", "latest", "type", "put", "get", "copy", "measure", "turn");

    private final Random random;
    private final List<Method> calls = new ArrayList<>();

    private ModelTest(long seed) {
        random = new Random(seed);
        for (Method m : FloatTowers.class.getMethods()) {
            if (m.getDeclaringClass() == FloatTowers.class) calls.add(m);
        }
        calls.sort(Comparator.comparing(Method::getName));
    }

    public static void main(String[] args) throws ReflectiveOperationException {
        int runs = args.length > 0 ? Integer.parseInt(args[0]) : 700;
        for (int run = 0; run < runs; run++) {
            ModelTest test = new ModelTest(run);
            test.run(run, run % 7);
        }
        new ModelTest(1).all(new FloatTowers());
        Due.close("ModelTest");
    }

    private int from(int lo, int hi) {
        return lo + random.nextInt(hi - lo + 1);
    }

    /** Arguments that mostly may be, by the call's name; some wild ones among them. */
    private Object[] arguments(Method m, int kind) {
        int size = kind % 2 == 0 ? 40 : 15;
        Object[] a = switch (m.getName()) {
            case "turn" -> new Object[] {from(-1, 36), from(-1, 2)};
            case "house" -> with(boxOf(size * 2), from(1, 25), from(1, 25), from(0, 9));
            case "cut" -> new Object[] {from(0, 6), from(0, 9)};
            case "kerb" -> boxOf(size * 2);
            case "wire" -> with(boxOf(size * 2), from(1, 30));
            case "down" -> new Object[] {from(0, 4), random.nextBoolean()};
            case "slope" -> with(boxOf(60), from(-200, 200), from(-200, 200), random.nextBoolean());
            case "rain" -> new Object[] {random.nextInt(4) == 0};
            case "ground" -> new Object[] {65 * from(-60, 60) + from(-1, 1), 65 * from(-60, 60), from(0, 3)};
            case "car" -> new Object[] {from(2, 8), from(2, 5), from(1, 99), from(0, 20)};
            case "storey" -> new Object[] {from(0, 3), from(1, 30), from(1, 9), from(1, 6)};
            case "stand" -> new Object[] {from(0, 3), from(-size, size), from(-size, size), from(0, 35)};
            case "leave", "pull", "need", "may", "woods", "perform" -> new Object[] {from(0, 3)};
            case "about" -> new Object[] {from(0, 3), from(0, 9)};
            case "wheel" -> new Object[] {from(0, 3), from(0, 3), from(0, 1)};
            case "feet" -> new Object[] {from(1, 20)};
            case "meets" -> new Object[] {from(0, 3), from(0, 10)};
            case "move" -> new Object[] {from(0, 3), from(0, 9)};
            case "way" -> with(new Object[] {from(0, 3)}, goalOf());
            case "step" -> new Object[] {from(0, 6)};
            case "rope" -> new Object[] {from(0, 3), from(0, 3), from(0, 150), from(1, 60) / from(1, 9) + 1, from(-9, 9)};
            case "set" -> new Object[] {from(0, 2), from(1, 30)};
            case "tight" -> new Object[] {from(0, 3), from(0, 3)};
            case "team" -> new Object[] {from(1, 100)};
            case "stage" -> new Object[] {from(0, 150)};
            case "run" -> new Object[] {from(1, 3)};
            case "pulls" -> new Object[] {from(0, 5)};
            case "block" -> new Object[] {from(0, 19), from(1, 60), random.nextBoolean()};
            case "enter" -> new Object[] {from(0, 19), from(0, 19), from(0, 200)};
            case "stuck" -> new Object[] {from(0, 3), from(0, 300), from(0, 900)};
            case "gone" -> new Object[] {from(0, 3)};
            case "where" -> new Object[] {from(0, 3), from(0, 600)};
            case "task" -> new Object[] {from(1, 90), 10 * from(0, 40)};
            case "crews" -> new Object[] {from(1, 4)};
            case "late" -> new Object[] {from(0, 11)};
            case "latest" -> new Object[] {from(0, 1)};
            case "type" -> new Object[] {(int) "dblrwf;0123456789 x".charAt(random.nextInt(19))};
            case "sheet" -> new Object[] {from(0, 3), from(0, 2), from(0, 60)};
            case "lose", "measure" -> new Object[] {from(0, 3)};
            case "put" -> new Object[] {from(0, 3), from(0, 2), from(0, 60), from(-100000, 100000)};
            case "get" -> new Object[] {from(0, 3), from(0, 2), from(0, 60)};
            case "copy" -> new Object[] {from(0, 3), from(-1, 30), from(0, 3), from(-1, 30), from(-1, 40)};
            case "count" -> new Object[] {from(-1, 13)};
            default -> new Object[0];
        };
        if (random.nextInt(12) == 0) {
            makeWild(a);
        }
        return a;
    }

    private void makeWild(Object[] a) {
        for (int i = 0; i < a.length; i++) {
            if (a[i] instanceof Integer && random.nextInt(2) == 0) {
                a[i] = random.nextInt(3) == 0 ? from(-1100, 1100) : WILD[random.nextInt(WILD.length)];
            }
        }
    }

    private Object[] boxOf(int far) {
        int x = from(-far, far);
        int y = from(-far, far);
        return new Object[] {x, y, x + from(1, 30), y + from(1, 30)};
    }

    private Object[] goalOf() {
        int x = from(-50, 10);
        int y = from(-50, 10);
        return new Object[] {x, y, x + from(8, 99), y + from(8, 99), from(0, 35)};
    }

    private static Object[] with(Object[] first, Object... more) {
        Object[] all = java.util.Arrays.copyOf(first, first.length + more.length);
        System.arraycopy(more, 0, all, first.length, more.length);
        return all;
    }

    private Method next(int kind) {
        for (int i = 0; i < 1000; i++) {
            Method m = calls.get(random.nextInt(calls.size()));
            String n = m.getName();
            boolean rare = RARE.contains(n) || (kind > 0 && "house wire kerb car storey".contains(n));
            if (kind >= 2 && NEAR.contains(n) && random.nextInt(2) == 0) {
                continue;
            }
            if (!rare || random.nextInt(n.equals("way") ? 2 : kind > 1 && n.equals("house") ? 60 : 10) == 0) return m;
        }
        return calls.get(0);
    }

    private void run(int run, int kind) throws ReflectiveOperationException {
        FloatTowers x = new FloatTowers();
        Model y = new Model();
        int wrong = Due.wrong();
        setUp(x, y, kind);
        for (int call = 0; call < 440 && Due.wrong() == wrong; call++) {
            if (random.nextInt(25) == 0) {
                typeOrders(x, y);
            }
            if (kind < 2 && random.nextInt(25) == 0) {
                writeHouses(x, y);
            }
            both("run " + run, x, y, next(kind), kind);
        }
        long due = y.digest();
        Due.is("run " + run + " digest", x.digest(), due);
        Due.is("run " + run + " digest again", x.digest(), due);
    }

    /** Cars that stand near one another, with few things about them, so that most moves are close to something. */
    private void setUp(FloatTowers x, Model y, int kind) {
        for (int car = 0; car < kind; car++) {
            int longs = from(2, 6);
            int sway = from(0, 20);
            Due.is("car()", x.car(longs, 3, 50, sway), y.car(longs, 3, 50, sway));
            int high = 0;
            for (int storeys = from(1, 4); storeys > 0; storeys--) {
                high += from(1, 9);
                int half = from(1, 5);
                Due.is("storey()", x.storey(car, high, half, 2), y.storey(car, high, half, 2));
            }
            for (int tries = 0; tries < 4; tries++) {
                int far = kind == 5 ? 500 : 20;
                int atX = from(-far, far) / (kind == 5 ? 500 : 1) * (kind == 5 ? 500 : 1);
                int atY = from(-far, far);
                int h = from(0, 35);
                Due.is("stand()", x.stand(car, atX, atY, h), y.stand(car, atX, atY, h));
            }
        }
        for (int i = 0; i < kind; i++) {
            int x0 = from(-40, 40);
            int y0 = from(-40, 40);
            int wide = from(1, 9);
            int high = from(1, 20);
            if (i < 2) {
                Due.is("house()", x.house(x0, y0, x0 + wide, y0 + wide, high, 20 - high + 1, wide),
                    y.house(x0, y0, x0 + wide, y0 + wide, high, 20 - high + 1, wide));
            }
            Due.is("wire()", x.wire(y0, x0, y0 + 5, x0 + wide, high), y.wire(y0, x0, y0 + 5, x0 + wide, high));
            Due.is("kerb()", x.kerb(-y0, x0, -y0 + 3, x0 + 2), y.kerb(-y0, x0, -y0 + 3, x0 + 2));
        }
    }

    private void both(String run, FloatTowers x, Model y, Method m, int kind) throws ReflectiveOperationException {
        Object[] a = arguments(m, kind);
        Method other = Model.class.getDeclaredMethod(m.getName(), m.getParameterTypes());
        long due = ((Number) other.invoke(y, a)).longValue();
        long got = 0;
        String told = run + ": " + m.getName() + java.util.Arrays.toString(a);
        try {
            got = ((Number) m.invoke(x, a)).longValue();
        } catch (InvocationTargetException e) {
            Due.is(told + " threw " + e.getCause(), 1, 0);
        }
        Due.is(told, got, due);
    }

    private void typeOrders(FloatTowers x, Model y) {
        Due.is("tear()", x.tear(), y.tear());
        StringBuilder t = new StringBuilder();
        for (int part = from(1, 8); part > 0; part--) {
            char letter = "dblrwf".charAt(random.nextInt(6));
            int most = letter == 'l' || letter == 'r' ? 3 : letter == 'w' ? 3 : 6;
            int number = random.nextInt(40) == 0 ? from(0, 99) : from(letter == 'l' || letter == 'r' || letter == 'w' ? 0 : 1, most);
            t.append(letter).append(number < 10 && random.nextInt(9) == 0 ? "0" : "").append(number);
            if (part > 1 || random.nextInt(30) == 0) {
                t.append(';');
            }
        }
        for (int i = 0; i < t.length(); i++) {
            Due.is("type()", x.type(t.charAt(i)), y.type(t.charAt(i)));
        }
        Due.is("fault() of " + t, x.fault(), y.fault());
        for (int car = -1; car < 4; car++) {
            Due.is("perform() of " + t, x.perform(car), y.perform(car));
        }
    }

    private void writeHouses(FloatTowers x, Model y) {
        int form = from(0, 2);
        int n = from(0, 30);
        Due.is("sheet()", x.sheet(0, form, n), y.sheet(0, form, n));
        for (int i = 0; i < n; i++) {
            int v = i % 7 < 2 ? from(-120, 120) : i % 7 < 4 ? from(60, 200) : from(1, 9);
            Due.is("put()", x.put(0, form, i, v), y.put(0, form, i, v));
        }
        Due.is("measure()", x.measure(0), y.measure(0));
    }

    /** Every call with every wild number in every place. */
    private void all(FloatTowers x) throws ReflectiveOperationException {
        for (Method m : calls) {
            Class<?>[] types = m.getParameterTypes();
            for (int round = 0; round < 500; round++) {
                Object[] a = new Object[types.length];
                for (int i = 0; i < a.length; i++) {
                    a[i] = types[i] == boolean.class ? (Object) random.nextBoolean() : (Object) WILD[random.nextInt(WILD.length)];
                }
                try {
                    m.invoke(x, a);
                } catch (InvocationTargetException e) {
                    Due.is(m.getName() + java.util.Arrays.toString(a) + " threw " + e.getCause(), 1, 0);
                }
            }
        }
    }
}
