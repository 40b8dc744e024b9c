/** Promises 8, 9, 10: word, hurt, ask. */
public final class HappeningTest {
    private static final Check check = new Check();

    public static void main(String[] args) {
        words();
        hurtFromBelow();
        asks();
        fullRooms();
        noTriggers();
        kindsDoNotMix();
        refusals();
        check.end();
    }

    private static SecondWaves world() {
        SecondWaves x = new SecondWaves();
        x.top(9);
        x.trigger(0, 7, 1, 60);
        x.trigger(0, 99, 2, 0);
        x.trigger(1, 5, 3, 0);
        x.trigger(1, 1000, 4, 0);
        x.trigger(3, 9, 5, 0);
        x.trigger(2, 8, 6, 0);
        x.begin();
        x.begin();
        x.close(1);
        return x;
    }

    private static void words() {
        SecondWaves x = world();
        check.same("a trigger's word", x.word(0, 7), 1);
        check.same("its step", x.incident(0, 0), 1);
        check.same("while the span runs", x.word(0, 7), 0);
        check.same("that word has a trigger", x.count(1), 0);
        check.same("no trigger's word", x.word(0, 0), 0);
        check.same("counted", x.count(1), 1);
        check.same("the last word", x.word(0, 99), 1);
        x.word(0, 5);
        x.word(0, 9);
        x.word(0, 8);
        check.same("other kinds have no words", x.count(1), 4);
        check.same("step", x.incident(0, 0), 2);
        x.trigger(0, 0, 0, 0);
        check.same("a trigger since", x.word(0, 0), 1);
        check.same("no longer counted", x.count(1), 4);
        check.same("step 0 is above nothing", x.count(3), 1);
    }

    private static void hurtFromBelow() {
        SecondWaves x = world();
        check.same("4", x.hurt(0, 4), 0);
        check.same("5 from 4", x.hurt(0, 5), 1);
        check.same("5 again", x.hurt(0, 5), 0);
        check.same("999", x.hurt(0, 999), 0);
        check.same("told", x.incident(0, 2), 999);
        check.same("10,000 passes 1,000", x.hurt(0, 10000), 1);
        check.same("less", x.hurt(0, 5), 0);
        check.same("none", x.hurt(0, 0), 0);
        check.same("told", x.incident(0, 2), 0);
        check.same("both at once", x.hurt(0, 1000), 2);
        check.same("step", x.incident(0, 0), 4);
        check.same("up", x.incident(0, 5), 2);
        SecondWaves y = new SecondWaves();
        y.trigger(1, 1, 0, 0);
        y.begin();
        check.same("0 hurt reaches nothing", y.hurt(0, 0), 0);
        check.same("the first hurt", y.hurt(0, 1), 1);
        y.begin();
        y.hurt(1, 3);
        y.trigger(1, 2, 0, 0);
        check.same("a trigger behind the count", y.hurt(1, 4), 0);
    }

    private static void asks() {
        SecondWaves x = world();
        check.same("a trigger's ask", x.ask(0, 9), 1);
        check.same("step", x.incident(0, 0), 5);
        check.same("no trigger's ask", x.ask(0, 0), 0);
        check.same("is no word", x.count(1), 0);
        check.same("again", x.ask(0, 9), 1);
        check.same("without going up", x.count(3), 1);
        check.same("up", x.incident(0, 5), 1);
    }

    /** With every room full the last trigger acts at the last incident, and none at a thirteenth. */
    private static SecondWaves full() {
        SecondWaves x = new SecondWaves();
        x.top(9);
        for (int i = 0; i < 20; i++) {
            x.trigger(new int[] {0, 1, 3}[i % 3], 9, i / 2, 0);
        }
        for (int i = 0; i < 12; i++) {
            x.begin();
        }
        return x;
    }

    private static void fullRooms() {
        SecondWaves x = full();
        check.same("words", x.word(11, 9), 7);
        check.same("hurt", x.hurt(11, 9), 7);
        check.same("asks", x.ask(11, 9), 6);
        check.same("the last trigger's step", x.incident(11, 0), 9);
        check.same("a neighbour", x.incident(10, 4), 0);
        check.refusedOutside("word", Check.UNKNOWN, 0, 11, HappeningTest::full, n -> y -> y.word(n, 9));
        check.refusedOutside("hurt", Check.UNKNOWN, 0, 11, HappeningTest::full, n -> y -> y.hurt(n, 9));
        check.refusedOutside("ask", Check.UNKNOWN, 0, 11, HappeningTest::full, n -> y -> y.ask(n, 9));
    }

    /** Without any trigger nothing acts, and every word is one that no trigger has. */
    private static void noTriggers() {
        SecondWaves x = new SecondWaves();
        x.begin();
        check.same("word 0", x.word(0, 0), 0);
        check.same("word 99", x.word(0, 99), 0);
        check.same("hurt", x.hurt(0, 10000), 0);
        check.same("ask 0", x.ask(0, 0), 0);
        check.same("ask 9", x.ask(0, 9), 0);
        check.same("tick", x.tick(5000), 0);
        check.same("words, not asks", x.count(1), 2);
    }

    private static void kindsDoNotMix() {
        SecondWaves x = new SecondWaves();
        x.top(9);
        for (int kind = 0; kind < 4; kind++) {
            x.trigger(kind, 5, kind + 1, 0);
        }
        x.begin();
        x.word(0, 5);
        check.same("word", x.incident(0, 0), 1);
        x.hurt(0, 5);
        check.same("hurt", x.incident(0, 0), 2);
        x.tick(5);
        check.same("silence", x.incident(0, 0), 3);
        x.ask(0, 5);
        check.same("ask", x.incident(0, 0), 4);
        for (int trigger = 0; trigger < 4; trigger++) {
            check.same("each once", x.acted(trigger), 1);
        }
    }

    private static void refusals() {
        for (int unknown : new int[] {-1, 2, Integer.MIN_VALUE, Integer.MAX_VALUE}) {
            check.refused("word", Check.UNKNOWN, HappeningTest::world, x -> x.word(unknown, 7));
            check.refused("hurt", Check.UNKNOWN, HappeningTest::world, x -> x.hurt(unknown, 5));
            check.refused("ask", Check.UNKNOWN, HappeningTest::world, x -> x.ask(unknown, 9));
            check.refused("word, unknown before range", Check.UNKNOWN, HappeningTest::world, x -> x.word(unknown, 100));
            check.refused("hurt, unknown before range", Check.UNKNOWN, HappeningTest::world, x -> x.hurt(unknown, -1));
            check.refused("ask, unknown before range", Check.UNKNOWN, HappeningTest::world, x -> x.ask(unknown, 10));
        }
        for (int incident = 0; incident < 2; incident++) {
            int at = incident;
            check.refusedOutside("word", Check.RANGE, 0, 99, HappeningTest::world, n -> x -> x.word(at, n));
            check.refusedOutside("hurt", Check.RANGE, 0, 10000, HappeningTest::world, n -> x -> x.hurt(at, n));
            check.refusedOutside("ask", Check.RANGE, 0, 9, HappeningTest::world, n -> x -> x.ask(at, n));
        }
        check.refused("word at 0 of none", Check.UNKNOWN, SecondWaves::new, x -> x.word(0, 0));
        check.refused("hurt at 0 of none", Check.UNKNOWN, SecondWaves::new, x -> x.hurt(0, 0));
        check.refused("ask at 0 of none", Check.UNKNOWN, SecondWaves::new, x -> x.ask(0, 0));
        check.refused("word at a closed one", Check.STATE, HappeningTest::world, x -> x.word(1, 7));
        check.refused("no trigger's word at a closed one", Check.STATE, HappeningTest::world, x -> x.word(1, 0));
        check.refused("hurt at a closed one", Check.STATE, HappeningTest::world, x -> x.hurt(1, 5));
        check.refused("ask at a closed one", Check.STATE, HappeningTest::world, x -> x.ask(1, 9));
    }
}
