import java.util.function.Consumer;
import java.util.function.Supplier;

/** What the tests share: answers against what is due, refusals, and the end with its exit code. */
final class Check {
    static final Class<?> UNKNOWN = IllegalArgumentException.class;
    static final Class<?> RANGE = IndexOutOfBoundsException.class;
    static final Class<?> STATE = IllegalStateException.class;
    static final Class<?> ROOM = UnsupportedOperationException.class;

    private int wrong;

    void same(String what, long got, long due) {
        if (got != due) {
            complain(what + " answered " + got + ", due is " + due);
        }
    }

    void same(String what, String got, String due) {
        if (!got.equals(due)) {
            complain(what + ":\n  is  " + got + "\n  due " + due);
        }
    }

    /** The call is refused just so, and leaves all that can be seen as in a twin that never got it. */
    void refused(String what, Class<?> due, Supplier<SecondWaves> world, Consumer<SecondWaves> call) {
        SecondWaves x = world.get();
        Class<?> thrown = thrownBy(() -> call.accept(x));
        if (thrown != due) {
            complain(what + " threw " + thrown + ", due is " + due);
        }
        same(what + " changed something", seen(x), seen(world.get()));
    }

    /** The class of what the call throws, or null. */
    static Class<?> thrownBy(Runnable call) {
        try {
            call.run();
            return null;
        } catch (RuntimeException e) {
            return e.getClass();
        }
    }

    /** All that an object tells of itself; some 330 calls when every room is full. */
    static String seen(SecondWaves x) {
        StringBuilder all = new StringBuilder();
        for (int what = 0; what < 4; what++) {
            all.append(x.count(what)).append(' ');
        }
        for (int i = 0; i < 12 && knows(x, i); i++) {
            all.append("| incident ").append(i).append(": ").append(incidentSeen(x, i));
        }
        for (int i = 0; i < 40; i++) {
            int unit = i;
            if (thrownBy(() -> x.unitAt(unit, 0)) != null) {
                break;
            }
            all.append("| unit ").append(i).append(": ").append(unitSeen(x, i));
        }
        for (int i = 0; i < 20; i++) {
            int trigger = i;
            if (thrownBy(() -> x.acted(trigger)) != null) {
                break;
            }
            all.append("| trigger ").append(i).append(": ").append(x.acted(i)).append(' ');
        }
        return all.toString();
    }

    static String incidentSeen(SecondWaves x, int incident) {
        StringBuilder all = new StringBuilder();
        for (int what = 0; what < 7; what++) {
            all.append(x.incident(incident, what)).append(' ');
        }
        if (x.incident(incident, 1) == 1) {
            for (int skill = 0; skill < 8; skill++) {
                all.append(x.needed(incident, skill)).append(' ');
            }
        }
        return all.toString();
    }

    static String unitSeen(SecondWaves x, int unit) {
        return x.unitAt(unit, 0) + " " + x.unitAt(unit, 1) + " " + x.unitAt(unit, 2) + " ";
    }

    private static boolean knows(SecondWaves x, int incident) {
        return thrownBy(() -> x.incident(incident, 0)) == null;
    }

    void end() {
        System.out.println(wrong == 0 ? "all answers are as due" : wrong + " answers are not as due");
        if (wrong != 0) {
            System.exit(1);
        }
    }

    private void complain(String text) {
        wrong++;
        System.out.println(text);
    }
}
