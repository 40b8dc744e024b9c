import java.util.ArrayList;
import java.util.List;
import java.util.function.Consumer;
import java.util.function.Supplier;

/**
 * 'Refusals, in this order: an unknown number; a number outside its range; not in this state; no room. What is
 * refused changes nothing.' Each call of the face gets every mixture of numbers that are fine, at the edges of
 * what is allowed, just outside, and the least and the greatest int; what is due is the first in that order.
 */
public final class RefusalTest {
    private static final Check check = new Check();
    private static final List<Class<?>> ORDER = List.of(Check.UNKNOWN, Check.RANGE, Check.STATE, Check.ROOM);
    private static final Numbers STEPS = fine(0, 9).but(Check.UNKNOWN, Check.outside(0, 9));
    private static final Numbers SKILLS = fine(0, 7).but(Check.UNKNOWN, Check.outside(0, 7));

    private interface Call {
        void on(SecondWaves x, int[] numbers);
    }

    /** Numbers for one place of a call, each with what it alone would be refused by, or null. */
    private static final class Numbers {
        final List<Integer> values = new ArrayList<>();
        final List<Class<?>> dues = new ArrayList<>();

        Numbers but(Class<?> due, int... more) {
            for (int value : more) {
                values.add(value);
                dues.add(due);
            }
            return this;
        }
    }

    private static Numbers fine(int... values) {
        return new Numbers().but(null, values);
    }

    /** An object to be asked, with how many of all it has; room tells whether there is room for more. */
    private static final class World {
        final String name;
        final Supplier<SecondWaves> maker;
        final int triggers;
        final int incidents;
        final int units;
        final boolean room;

        World(String name, Supplier<SecondWaves> maker, int triggers, int incidents, int units, boolean room) {
            this.name = name;
            this.maker = maker;
            this.triggers = triggers;
            this.incidents = incidents;
            this.units = units;
            this.room = room;
        }
    }

    public static void main(String[] args) {
        World some = new World("some of all", RefusalTest::someOfAll, 13, 3, 4, true);
        World full = new World("full of all", RefusalTest::fullOfAll, 20, 12, 40, false);
        for (World world : new World[] {some, full}) {
            scale(world);
            triggers(world);
            incidents(world);
            happenings(world);
            units(world);
            told(world);
        }
        nothingIsKnownAtFirst();
        lateTicks();
        check.end();
    }

    /**
     * Incident 0 is on step 5 of 7, 1 is closed, 2 is open on step 0. Unit 0 is free, 1 under way and 2 there at
     * incident 0, 3 is free. Ask 0 .. 9 leads to step 0 .. 9.
     */
    private static SecondWaves someOfAll() {
        SecondWaves x = new SecondWaves();
        x.top(7);
        x.row(0, 0, 1);
        x.row(5, 2, 30);
        x.row(9, 7, 4);
        for (int step = 0; step < 10; step++) {
            x.trigger(3, step, step, step == 9 ? 40 : 0);
        }
        x.trigger(0, 11, 1, 60);
        x.trigger(1, 5, 2, 0);
        x.trigger(2, 8, 3, 0);
        for (int i = 0; i < 3; i++) {
            x.begin();
        }
        x.ask(0, 5);
        x.word(0, 11);
        x.close(1);
        for (int i = 0; i < 4; i++) {
            x.unit(2);
        }
        x.go(1, 0, 6);
        x.go(2, 0, 5);
        x.arrive(2);
        x.tick(3);
        return x;
    }

    private static SecondWaves fullOfAll() {
        SecondWaves x = someOfAll();
        for (int i = 13; i < 20; i++) {
            x.trigger(2, i, 4, 100);
        }
        for (int i = 3; i < 12; i++) {
            x.begin();
        }
        for (int i = 4; i < 40; i++) {
            x.unit(i % 8);
        }
        return x;
    }

    private static Numbers incidentsOf(World world) {
        return fine(0).but(Check.STATE, 1).but(Check.UNKNOWN, Check.outside(0, world.incidents - 1));
    }

    private static Numbers unitsOf(World world) {
        return fine(0, world.units - 1).but(Check.UNKNOWN, Check.outside(0, world.units - 1));
    }

    private static void scale(World world) {
        Numbers counts = fine(0, 30).but(Check.RANGE, Check.outside(0, 30));
        mix(world, "row", false, (x, n) -> x.row(n[0], n[1], n[2]), STEPS, SKILLS, counts);
        Numbers tops = fine(5, 9).but(Check.STATE, 0, 4).but(Check.UNKNOWN, Check.outside(0, 9));
        mix(world, "top", false, (x, n) -> x.top(n[0]), tops);
    }

    private static void triggers(World world) {
        int[] least = {0, 1, 1, 0};
        int[] greatest = {99, 1000, 100000, 9};
        Numbers spans = fine(0, 100000).but(Check.RANGE, Check.outside(0, 100000));
        for (int kind = 0; kind < 4; kind++) {
            Numbers kinds = fine(kind).but(Check.UNKNOWN, Check.outside(0, 3));
            Numbers whats = fine(least[kind], greatest[kind])
                    .but(Check.RANGE, Check.outside(least[kind], greatest[kind]));
            mix(world, "trigger", true, (x, n) -> x.trigger(n[0], n[1], n[2], n[3]), kinds, whats, STEPS, spans);
        }
    }

    private static void incidents(World world) {
        mix(world, "begin", true, (x, n) -> x.begin());
        mix(world, "close", false, (x, n) -> x.close(n[0]), incidentsOf(world));
        mix(world, "tell", false, (x, n) -> x.tell(n[0]), incidentsOf(world));
        mix(world, "tick", false, (x, n) -> x.tick(n[0]), fine(1, 5000).but(Check.RANGE, Check.outside(1, 5000)));
        Numbers lower = fine(0, 4).but(Check.STATE, 5, 6, 7, 8, 9).but(Check.UNKNOWN, Check.outside(0, 9));
        mix(world, "calm", false, (x, n) -> x.calm(n[0], n[1]), incidentsOf(world), lower);
    }

    private static void happenings(World world) {
        Numbers words = fine(0, 99).but(Check.RANGE, Check.outside(0, 99));
        mix(world, "word", false, (x, n) -> x.word(n[0], n[1]), incidentsOf(world), words);
        Numbers hurt = fine(0, 10000).but(Check.RANGE, Check.outside(0, 10000));
        mix(world, "hurt", false, (x, n) -> x.hurt(n[0], n[1]), incidentsOf(world), hurt);
        Numbers asks = fine(0, 9).but(Check.RANGE, Check.outside(0, 9));
        mix(world, "ask", false, (x, n) -> x.ask(n[0], n[1]), incidentsOf(world), asks);
    }

    private static void units(World world) {
        mix(world, "unit", true, (x, n) -> x.unit(n[0]), SKILLS);
        Numbers distances = fine(0, 99999).but(Check.RANGE, Check.outside(0, 99999));
        Numbers going = unitsOf(world).but(Check.STATE, 1, 2);
        mix(world, "go", false, (x, n) -> x.go(n[0], n[1], n[2]), going, incidentsOf(world), distances);
        Numbers arriving = fine(1).but(Check.STATE, 0, 2, 3, world.units - 1)
                .but(Check.UNKNOWN, Check.outside(0, world.units - 1));
        mix(world, "arrive", false, (x, n) -> x.arrive(n[0]), arriving);
        mix(world, "needed", false, (x, n) -> x.needed(n[0], n[1]), incidentsOf(world), SKILLS);
    }

    private static void told(World world) {
        Numbers ofIncidents = fine(0, 1, world.incidents - 1)
                .but(Check.UNKNOWN, Check.outside(0, world.incidents - 1));
        Numbers ofTriggers = fine(0, world.triggers - 1).but(Check.UNKNOWN, Check.outside(0, world.triggers - 1));
        Numbers seven = fine(0, 6).but(Check.UNKNOWN, Check.outside(0, 6));
        Numbers three = fine(0, 2).but(Check.UNKNOWN, Check.outside(0, 2));
        Numbers four = fine(0, 3).but(Check.UNKNOWN, Check.outside(0, 3));
        mix(world, "incident", false, (x, n) -> x.incident(n[0], n[1]), ofIncidents, seven);
        mix(world, "unitAt", false, (x, n) -> x.unitAt(n[0], n[1]), unitsOf(world), three);
        mix(world, "acted", false, (x, n) -> x.acted(n[0]), ofTriggers);
        mix(world, "count", false, (x, n) -> x.count(n[0]), four);
    }

    /** In a new object even 0 is unknown, and that comes before a range. */
    private static void nothingIsKnownAtFirst() {
        World none = new World("nothing", SecondWaves::new, 0, 0, 0, true);
        Numbers unknown = new Numbers().but(Check.UNKNOWN, 0, -1, Integer.MIN_VALUE, Integer.MAX_VALUE);
        Numbers any = fine(0).but(Check.RANGE, Check.outside(0, 99999));
        mix(none, "close", false, (x, n) -> x.close(n[0]), unknown);
        mix(none, "word", false, (x, n) -> x.word(n[0], n[1]), unknown, any);
        mix(none, "hurt", false, (x, n) -> x.hurt(n[0], n[1]), unknown, any);
        mix(none, "ask", false, (x, n) -> x.ask(n[0], n[1]), unknown, any);
        mix(none, "tell", false, (x, n) -> x.tell(n[0]), unknown);
        mix(none, "calm", false, (x, n) -> x.calm(n[0], n[1]), unknown, STEPS);
        mix(none, "go", false, (x, n) -> x.go(n[0], n[1], n[2]), unknown, unknown, any);
        mix(none, "arrive", false, (x, n) -> x.arrive(n[0]), unknown);
        mix(none, "needed", false, (x, n) -> x.needed(n[0], n[1]), unknown, SKILLS);
        mix(none, "incident", false, (x, n) -> x.incident(n[0], n[1]), unknown, fine(0, 6));
        mix(none, "unitAt", false, (x, n) -> x.unitAt(n[0], n[1]), unknown, fine(0, 2));
        mix(none, "acted", false, (x, n) -> x.acted(n[0]), unknown);
    }

    /** So late that 4,999 seconds are left. */
    private static SecondWaves late() {
        SecondWaves x = new SecondWaves();
        x.begin();
        for (int i = 0; i < 199; i++) {
            x.tick(5000);
        }
        return x;
    }

    private static void lateTicks() {
        World late = new World("4,999 seconds are left", RefusalTest::late, 0, 1, 0, true);
        Numbers seconds = fine(1, 4999).but(Check.RANGE, 5000, 0, 5001, Integer.MIN_VALUE, Integer.MAX_VALUE);
        mix(late, "tick", false, (x, n) -> x.tick(n[0]), seconds);
    }

    private static void mix(World world, String name, boolean needsRoom, Call call, Numbers... places) {
        String seen = Check.seen(world.maker.get());
        String later = Check.later(world.maker.get());
        int mixtures = 1;
        for (Numbers place : places) {
            mixtures *= place.values.size();
        }
        for (int i = 0; i < mixtures; i++) {
            int[] numbers = new int[places.length];
            Class<?> due = needsRoom && !world.room ? Check.ROOM : null;
            StringBuilder text = new StringBuilder(world.name).append(": ").append(name);
            int rest = i;
            for (int place = 0; place < places.length; place++) {
                int pick = rest % places[place].values.size();
                rest /= places[place].values.size();
                numbers[place] = places[place].values.get(pick);
                due = first(due, places[place].dues.get(pick));
                text.append(' ').append(numbers[place]);
            }
            ask(text.toString(), due, world, x -> call.on(x, numbers), seen, later);
        }
    }

    private static void ask(String text, Class<?> due, World world, Consumer<SecondWaves> call,
            String seen, String later) {
        SecondWaves told = world.maker.get();
        check.throwing(text, due, () -> call.accept(told));
        if (due != null) {
            check.same(text + " changed something", Check.seen(told), seen);
            SecondWaves used = world.maker.get();
            Check.thrownBy(() -> call.accept(used));
            check.same(text + " changed what comes later", Check.later(used), later);
        }
    }

    private static Class<?> first(Class<?> one, Class<?> other) {
        if (one == null || other == null) {
            return one == null ? other : one;
        }
        return ORDER.indexOf(one) <= ORDER.indexOf(other) ? one : other;
    }
}
