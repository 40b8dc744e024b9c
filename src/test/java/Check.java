import java.util.function.Consumer;
import java.util.function.IntFunction;
import java.util.function.IntSupplier;
import java.util.function.Supplier;

/** What the tests share: answers against what is due, refusals, and the end with its exit code. */
final class Check {
    static final Class<?> UNKNOWN = IllegalArgumentException.class;
    static final Class<?> RANGE = IndexOutOfBoundsException.class;
    static final Class<?> STATE = IllegalStateException.class;
    static final Class<?> ROOM = UnsupportedOperationException.class;

    private int wrong;

    void same(String what, long got, long due) {
        if (got != due) {
            complain(what + " answered " + got + ", due is " + due);
        }
    }

    void same(String what, String got, String due) {
        if (!got.equals(due)) {
            complain(what + ":\n  is  " + got + "\n  due " + due);
        }
    }

    /** The call throws just this class, or nothing when that is null. */
    void throwing(String what, Class<?> due, Runnable call) {
        Class<?> thrown = thrownBy(call);
        if (thrown != due) {
            complain(what + " threw " + thrown + ", due is " + due);
        }
    }

    /**
     * The call is refused just so, and changes nothing: neither what the object tells of itself nor what it
     * answers later is another than with a twin that never got the call.
     */
    void refused(String what, Class<?> due, Supplier<SecondWaves> world, Consumer<SecondWaves> call) {
        SecondWaves told = world.get();
        throwing(what, due, () -> call.accept(told));
        same(what + " changed something", seen(told), seen(world.get()));
        SecondWaves used = world.get();
        thrownBy(() -> call.accept(used));
        same(what + " changed what comes later", later(used), later(world.get()));
    }

    /** Every number just outside least .. greatest, and the least and the greatest int, is refused just so. */
    void refusedOutside(String what, Class<?> due, int least, int greatest, Supplier<SecondWaves> world,
            IntFunction<Consumer<SecondWaves>> call) {
        for (int number : outside(least, greatest)) {
            refused(what + " " + number, due, world, call.apply(number));
        }
    }

    static int[] outside(int least, int greatest) {
        return new int[] {least - 1, greatest + 1, Integer.MIN_VALUE, Integer.MAX_VALUE};
    }

    /** The class of what the call throws, or null. */
    static Class<?> thrownBy(Runnable call) {
        try {
            call.run();
            return null;
        } catch (RuntimeException e) {
            return e.getClass();
        }
    }

    /** All that an object tells of itself; some 330 calls when every room is full. */
    static String seen(SecondWaves x) {
        StringBuilder all = new StringBuilder();
        for (int what = 0; what < 4; what++) {
            all.append(x.count(what)).append(' ');
        }
        for (int i = 0; i < 12 && knows(x, i); i++) {
            all.append("| incident ").append(i).append(": ").append(incidentSeen(x, i));
        }
        for (int i = 0; i < 40; i++) {
            int unit = i;
            if (thrownBy(() -> x.unitAt(unit, 0)) != null) {
                break;
            }
            all.append("| unit ").append(i).append(": ").append(unitSeen(x, i));
        }
        for (int i = 0; i < 20; i++) {
            int trigger = i;
            if (thrownBy(() -> x.acted(trigger)) != null) {
                break;
            }
            all.append("| trigger ").append(i).append(": ").append(x.acted(i)).append(' ');
        }
        return all.toString();
    }

    static String incidentSeen(SecondWaves x, int incident) {
        StringBuilder all = new StringBuilder();
        for (int what = 0; what < 7; what++) {
            all.append(x.incident(incident, what)).append(' ');
        }
        if (x.incident(incident, 1) == 1) {
            for (int skill = 0; skill < 8; skill++) {
                all.append(x.needed(incident, skill)).append(' ');
            }
        }
        return all.toString();
    }

    static String unitSeen(SecondWaves x, int unit) {
        return x.unitAt(unit, 0) + " " + x.unitAt(unit, 1) + " " + x.unitAt(unit, 2) + " ";
    }

    /** What some 220 later calls at incident 0 answer: they bring out the top, rows, triggers, spans and rooms. */
    static String later(SecondWaves x) {
        StringBuilder all = new StringBuilder();
        for (int w = 0; w < 100; w += 11) {
            int word = w;
            add(all, () -> x.word(0, word));
        }
        add(all, () -> x.hurt(0, 10000));
        add(all, () -> x.ask(0, 9));
        add(all, () -> x.incident(0, 0));
        add(all, () -> done(() -> x.top(9)));
        add(all, () -> x.calm(0, 0));
        stepsLater(x, all);
        for (int i = 0; i < 10; i++) {
            int seconds = 1 + i * i * i;
            add(all, () -> x.tick(seconds));
            add(all, () -> x.word(0, 11));
            add(all, () -> x.count(3));
        }
        for (int i = 0; i <= 12; i++) {
            add(all, x::begin);
        }
        for (int i = 0; i <= 40; i++) {
            add(all, () -> x.unit(7));
        }
        for (int i = 0; i <= 20; i++) {
            add(all, () -> x.trigger(2, 1, 9, 0));
        }
        add(all, () -> x.tick(1));
        return all.toString();
    }

    /** Ask 0 .. 9, where triggers make stairs of them, goes up past every row. */
    private static void stepsLater(SecondWaves x, StringBuilder all) {
        for (int a = 0; a < 10; a++) {
            int ask = a;
            add(all, () -> x.ask(0, ask));
            add(all, () -> x.incident(0, 0));
            for (int skill = 0; skill < 8; skill++) {
                int wanted = skill;
                add(all, () -> x.needed(0, wanted));
            }
        }
    }

    private static int done(Runnable call) {
        call.run();
        return 0;
    }

    private static void add(StringBuilder all, IntSupplier call) {
        String answer;
        try {
            answer = String.valueOf(call.getAsInt());
        } catch (RuntimeException e) {
            answer = e.getClass().getSimpleName();
        }
        all.append(answer).append(' ');
    }

    private static boolean knows(SecondWaves x, int incident) {
        return thrownBy(() -> x.incident(incident, 0)) == null;
    }

    void end() {
        System.out.println(wrong == 0 ? "all answers are as due" : wrong + " answers are not as due");
        if (wrong != 0) {
            System.exit(1);
        }
    }

    private void complain(String text) {
        wrong++;
        System.out.println(text);
    }
}
