import java.lang.reflect.Constructor;
import java.lang.reflect.Field;
import java.lang.reflect.Method;
import java.lang.reflect.Modifier;
import java.util.Map;
import java.util.TreeMap;

/** The public face, and promise 1: a new object. */
public final class FaceTest {
    private static final Due DUE = new Due("FaceTest");

    public static void main(String[] args) {
        constants();
        members();
        newObject();
        objectsAreApart();
        DUE.close();
    }

    private static void constants() {
        DUE.is("BAD", MonitorTurns.BAD, -1);
        DUE.is("STATE", MonitorTurns.STATE, -2);
        DUE.is("FULL", MonitorTurns.FULL, -3);
        DUE.is("NONE", MonitorTurns.NONE, -4);
        DUE.is("IDLE", MonitorTurns.IDLE, -5);
        DUE.is("STUCK", MonitorTurns.STUCK, -6);
        DUE.is("OVER", MonitorTurns.OVER, -7);
    }

    private static void members() {
        Map<String, Integer> face = new TreeMap<>(Map.of("thing", 2, "of", 2, "item", 2, "weigh", 1, "trace", 1,
                "act", 5, "wipe", 1, "thread", 3, "set", 3, "give", 3));
        face.putAll(Map.of("start", 1, "broken", 1, "rule", 1, "order", 1, "turn", 0, "run", 1));
        face.putAll(Map.of("told", 2, "register", 2, "hand", 2, "ring", 1, "log", 2, "count", 1));
        Map<String, Integer> found = new TreeMap<>();
        for (Method method : MonitorTurns.class.getDeclaredMethods()) {
            boolean open = Modifier.isPublic(method.getModifiers());
            DUE.holds(method + " is public or private", open || Modifier.isPrivate(method.getModifiers()));
            if (open) {
                found.put(method.getName(), method.getParameterCount());
                DUE.holds(method + " answers an int", method.getReturnType() == int.class);
            } else {
                DUE.holds(method + " has a name of its own", !face.containsKey(method.getName()));
            }
        }
        DUE.holds("the methods are the document's: " + found, found.equals(face));
        for (Field field : MonitorTurns.class.getDeclaredFields()) {
            boolean constant = field.getName().matches("BAD|STATE|FULL|NONE|IDLE|STUCK|OVER");
            DUE.holds(field + " is private or one of the document's",
                    constant == Modifier.isPublic(field.getModifiers())
                            && (constant || Modifier.isPrivate(field.getModifiers())));
        }
        for (Class<?> inside : MonitorTurns.class.getDeclaredClasses()) {
            DUE.holds(inside + " is static and not public", Modifier.isStatic(inside.getModifiers())
                    && !Modifier.isPublic(inside.getModifiers()) && !Modifier.isProtected(inside.getModifiers()));
        }
        Constructor<?>[] makers = MonitorTurns.class.getDeclaredConstructors();
        DUE.is("constructors", makers.length, 1);
        DUE.is("their parameters", makers[0].getParameterCount(), 0);
        DUE.holds("the class is public and final", Modifier.isFinal(MonitorTurns.class.getModifiers())
                && Modifier.isPublic(MonitorTurns.class.getModifiers()));
    }

    private static void newObject() {
        MonitorTurns x = new MonitorTurns();
        for (int what = 0; what <= 16; what++) {
            DUE.is("count(" + what + ")", x.count(what), 0);
        }
        DUE.is("turn()", x.turn(), Ops.OVER);
        DUE.is("run(60)", x.run(60), 0);
        DUE.is("count(0) behind them", x.count(0), 0);
        DUE.is("of(0, 0)", x.of(0, 0), Ops.BAD);
        DUE.is("item(0, 0)", x.item(0, 0), Ops.BAD);
        DUE.is("weigh(0)", x.weigh(0), Ops.BAD);
        DUE.is("trace(0)", x.trace(0), Ops.NONE);
        DUE.is("ring(0)", x.ring(0), Ops.NONE);
        DUE.is("log(0, 0)", x.log(0, 0), Ops.NONE);
        int[] none = {0, 0, 0, 0, 0, Ops.NONE, Ops.NONE, 0, 0};
        for (int t = 0; t < 6; t++) {
            for (int what = 0; what < none.length; what++) {
                DUE.is("told(" + t + ", " + what + ")", x.told(t, what), none[what]);
            }
            for (int i = 0; i < 6; i++) {
                DUE.is("register", x.register(t, i), 0);
                DUE.is("hand", x.hand(t, i), Ops.NONE);
            }
        }
        for (int p = 0; p < 8; p++) {
            DUE.is("wipe(" + p + ")", x.wipe(p), 0);
        }
        DUE.is("rule(1)", x.rule(1), 0);
        DUE.is("order(2)", x.order(2), 0);
    }

    private static void objectsAreApart() {
        MonitorTurns one = new MonitorTurns();
        MonitorTurns other = new MonitorTurns();
        one.thing(Ops.BOX, 0);
        one.weigh(0);
        Ops.started(one, 0, Ops.op(Ops.REST));
        one.turn();
        DUE.is("count(13)", other.count(13), 0);
        DUE.is("trace(0)", other.trace(0), Ops.NONE);
        DUE.is("count(0)", other.count(0), 0);
        DUE.is("told(0, 0)", other.told(0, 0), Ops.T_NONE);
    }
}
