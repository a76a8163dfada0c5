import java.lang.reflect.Method;
import java.util.ArrayList;
import java.util.List;
import java.util.Map;
import java.util.TreeSet;
import java.util.regex.Matcher;
import java.util.regex.Pattern;

/**
 * One boundary case: a sentence of the document, and a run of calls on a new object that would answer otherwise if the
 * sentence were broken. A run is a text of calls as "house(0,0,1,1,1,1,1)=0"; "3*kerb(0,0,1,1)={i}" is three calls,
 * i from 0 on ({i+1}: from 1 on); "write(d1;b2)=5" types a text, of which the last byte's answer is told.
 *
 * Behind each run a second object is given the same calls without those that were refused: it must be in the same
 * state as the first, because refusals change nothing (but count(9)).
 */
final class Edge {
    private static final Map<String, Integer> NAMES = Map.ofEntries(Map.entry("NONE", -1), Map.entry("BAD", -2),
        Map.entry("NOT", -3), Map.entry("FULL", -4), Map.entry("SPENT", -5), Map.entry("NULL", -11),
        Map.entry("INDEX", -12), Map.entry("CAST", -13), Map.entry("STORE", -14), Map.entry("SIZE", -15),
        Map.entry("LEAST", Integer.MIN_VALUE), Map.entry("MOST", Integer.MAX_VALUE));
    private static final Pattern CALL = Pattern.compile("(?:(\\d+)\\*)?(\\w+)\\(([^)]*)\\)=([-\\w{}+]+)\\s*");
    private static final int MOST_CALLS = 512;
    private static final TreeSet<Integer> PROMISES = new TreeSet<>();

    private record Call(String told, Method method, Object[] arguments, long due) {
        boolean isRefused() {
            return due < 0 && !method.getName().equals("way");
        }

        long on(FloatTowers x) {
            try {
                return ((Number) method.invoke(x, arguments)).longValue();
            } catch (ReflectiveOperationException e) {
                throw new AssertionError(told + ": " + e.getCause());
            }
        }
    }

    private Edge() {
    }

    static void of(int promise, String sentence, String... runs) {
        PROMISES.add(promise);
        List<Call> calls = new ArrayList<>();
        for (String run : runs) {
            read(run, calls);
        }
        FloatTowers all = new FloatTowers();
        FloatTowers done = new FloatTowers();
        String name = promise + ": " + sentence + ": ";
        for (Call call : calls) {
            Due.is(name + call.told(), call.on(all), call.due());
            if (!call.isRefused()) {
                call.on(done);
            }
        }
        State due = new State(done);
        State got = new State(all);
        for (int i = 0; i < due.answers.size(); i++) {
            Due.is(name + "refusals change nothing: " + due.names.get(i), got.answers.get(i), due.answers.get(i));
        }
        Due.is(name + "no more calls than an object is used for", Math.max(0, calls.size() + got.calls - MOST_CALLS), 0);
    }

    /** Fails, if a promise of these has no boundary case. */
    static void close(String name, int first, int last) {
        for (int promise = first; promise <= last; promise++) {
            Due.is("promise " + promise + " has boundary cases", PROMISES.contains(promise) ? 1 : 0, 1);
        }
        Due.close(name);
    }

    private static void read(String run, List<Call> calls) {
        Matcher m = CALL.matcher(run.strip());
        int at = 0;
        while (m.find()) {
            if (m.start() != at) {
                throw new IllegalArgumentException("no call: " + run.strip().substring(at));
            }
            at = m.end();
            int times = m.group(1) == null ? 1 : Integer.parseInt(m.group(1));
            for (int i = 0; i < times; i++) {
                add(calls, m.group(2), count(m.group(3), i), count(m.group(4), i));
            }
        }
        if (at != run.strip().length()) {
            throw new IllegalArgumentException("no call: " + run.strip().substring(at));
        }
    }

    private static String count(String text, int i) {
        return text.replace("{i}", "" + i).replace("{i+1}", "" + (i + 1));
    }

    private static void add(List<Call> calls, String name, String arguments, String due) {
        if (name.equals("write")) {
            int length = Integer.parseInt(due) - arguments.length();
            for (char c : arguments.toCharArray()) {
                length++;
                add(calls, "type", "" + (int) c, "" + length);
            }
            return;
        }
        String[] told = arguments.isEmpty() ? new String[0] : arguments.split(",");
        Object[] values = new Object[told.length];
        for (int i = 0; i < told.length; i++) {
            values[i] = told[i].equals("true") || told[i].equals("false") ? (Object) Boolean.valueOf(told[i])
                : (Object) number(told[i]);
        }
        calls.add(new Call(name + "(" + arguments + ")", method(name, told.length), values, number(due)));
    }

    private static int number(String told) {
        return NAMES.containsKey(told) ? NAMES.get(told) : Integer.parseInt(told);
    }

    private static Method method(String name, int arguments) {
        for (Method m : FloatTowers.class.getDeclaredMethods()) {
            if (m.getName().equals(name) && m.getParameterCount() == arguments) {
                return m;
            }
        }
        throw new IllegalArgumentException("no such call: " + name + " of " + arguments);
    }

    /** All that an object tells of its state, but for count(9). It is asked once and of no use behind that. */
    private static final class State {
        final List<String> names = new ArrayList<>();
        final List<Long> answers = new ArrayList<>();
        int calls;

        State(FloatTowers x) {
            add("digest()", x.digest());
            add("seen()", x.seen());
            for (int i = 0; i < 12; i++) {
                add("step(" + i + ")", x.step(i));
                add("late(" + i + ")", x.late(i));
            }
            for (int car = 0; car < 4; car++) {
                addCar(x, car);
            }
            for (int stage = 0; stage < 6; stage++) {
                add("pulls(" + stage + ")", x.pulls(stage));
            }
            add("fault()", x.fault());
            addNumbers(x);
            for (int house = 0; house < 20; house++) {
                add("cut(" + house + ", 0)", x.cut(house, 0));
            }
            for (int wire = 0; wire < 10; wire++) {
                add("down(" + wire + ", true)", x.down(wire, true));
            }
            for (int s = 0; s < 4; s++) {
                addSheet(x, s);
            }
            addDay(x);
        }

        private void add(String name, long answer) {
            names.add(name);
            answers.add(answer);
            calls++;
        }

        private void addCar(FloatTowers x, int car) {
            for (int move = 0; move <= 10; move++) {
                add("meets(" + car + ", " + move + ")", x.meets(car, move));
            }
            for (int rope = 0; rope < 4; rope++) {
                add("tight(" + car + ", " + rope + ")", x.tight(car, rope));
            }
            add("may(" + car + ")", x.may(car));
            add("woods(" + car + ")", x.woods(car));
            add("gone(" + car + ")", x.gone(car));
            add("where(" + car + ", 20)", x.where(car, 20));
        }

        private void addNumbers(FloatTowers x) {
            for (int what = 0; what < 3; what++) {
                add("set(" + what + ", 1)", x.set(what, 1));
            }
            add("run(1)", x.run(1));
            add("crews(1)", x.crews(1));
            add("rain(true)", x.rain(true));
            add("rain(false)", x.rain(false));
        }

        private void addSheet(FloatTowers x, int s) {
            for (int form = 0; form < 3; form++) {
                for (int i = 0; i < 5; i++) {
                    add("get(" + s + ", " + form + ", " + i + ")", x.get(s, form, i));
                }
            }
            add("lose(" + s + ")", x.lose(s));
        }

        /** The blocks' minutes and side lanes are seen by cars alone. */
        private void addDay(FloatTowers x) {
            add("home()", x.home());
            add("enter(0, 19, 0)", x.enter(0, 19, 0));
            add("enter(19, 0, 0)", x.enter(19, 0, 0));
            for (int minute = 0; minute < 600; minute += 60) {
                add("where(0, " + minute + ")", x.where(0, minute));
                add("where(1, " + minute + ")", x.where(1, minute));
            }
        }
    }
}
