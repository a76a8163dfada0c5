import java.lang.reflect.Field;
import java.lang.reflect.Method;
import java.lang.reflect.Modifier;

/** The face is the document's and no more; its constants; promise 1. */
public final class FaceTest {
    private static final String[] NAMES = (
        "turn house cut kerb wire down slope rain ground car storey stand leave about wheel feet meets move way step "
        + "seen rope set tight pull need may woods team stage run roster pulls block enter stuck home gone where task "
        + "crews late latest type tear fault perform sheet lose put get copy measure count digest").split(" ");

    public static void main(String[] args) {
        Due.is("final", Modifier.isFinal(FloatTowers.class.getModifiers()) ? 1 : 0, 1);
        java.util.List<String> names = new java.util.ArrayList<>(java.util.List.of(NAMES));
        for (Method m : FloatTowers.class.getDeclaredMethods()) {
            if (m.isSynthetic()) {
                continue;
            }
            boolean named = java.util.List.of(NAMES).contains(m.getName());
            Due.is("public as named: " + m, Modifier.isPublic(m.getModifiers()) ? 1 : 0, named ? 1 : 0);
            Due.is("private else: " + m, Modifier.isPrivate(m.getModifiers()) ? 1 : 0, named ? 0 : 1);
            names.remove(m.getName());
        }
        Due.is("all names are there, missing " + names, names.size(), 0);
        int constants = 0;
        for (Field f : FloatTowers.class.getDeclaredFields()) {
            if (!Modifier.isPrivate(f.getModifiers())) {
                constants++;
            }
        }
        Due.is("public fields", constants, 5);
        Due.is("NONE", FloatTowers.NONE, -1);
        Due.is("BAD", FloatTowers.BAD, -2);
        Due.is("NOT", FloatTowers.NOT, -3);
        Due.is("FULL", FloatTowers.FULL, -4);
        Due.is("SPENT", FloatTowers.SPENT, -5);
        newObject();
        Due.close("FaceTest");
    }

    private static void newObject() {
        FloatTowers x = new FloatTowers();
        for (int what = 0; what <= 11; what++) {
            Due.is("1: count(" + what + ")", x.count(what), 0);
        }
        Due.is("1: count(12)", x.count(12), 4);
        for (int s = 0; s < 4; s++) {
            Due.is("1: lose(" + s + ")", x.lose(s), -11);
        }
        Due.is("1: seen()", x.seen(), 0);
        Due.is("1: step(0)", x.step(0), -2);
        Due.is("1: roster()", x.roster(), 0);
        Due.is("1: fault()", x.fault(), 0);
        Due.is("1: latest(0)", x.latest(0), 0);
        Due.is("1: ground(0, 0, 0)", x.ground(0, 0, 0), -1);
        Due.is("1: feet(4)", x.feet(4), 4);
        Due.is("1: set(0, 1)", x.set(0, 1), 3);
        Due.is("1: set(1, 1)", x.set(1, 1), 20);
        Due.is("1: set(2, 1)", x.set(2, 1), 12);
        Due.is("1: run(1)", x.run(1), 2);
        Due.is("1: crews(2)", x.crews(2), 1);
    }
}
