/** Promise 7: tick, with the silences it brings. */
public final class TickTest {
    private static final Check check = new Check();

    public static void main(String[] args) {
        time();
        refusals();
        atJustThatSecond();
        rowsStartSilencesAnew();
        onlyRowsBreakTheSilence();
        closedOnesAreLeftAlone();
        lateTriggers();
        secondsBeforeNumbers();
        oneTickOrMany();
        check.end();
    }

    private static SecondWaves nearTheEnd() {
        SecondWaves x = new SecondWaves();
        x.begin();
        x.trigger(2, 999, 1, 0);
        x.trigger(2, 4999, 1, 0);
        for (int i = 0; i < 199; i++) {
            x.tick(5000);
        }
        x.tell(0);
        x.tick(4998);
        return x;
    }

    private static void time() {
        SecondWaves x = new SecondWaves();
        check.same("at first", x.count(0), 0);
        check.same("nobody acts", x.tick(1), 0);
        check.same("after 1", x.count(0), 1);
        x.tick(5000);
        check.same("after 5,001", x.count(0), 5001);
        SecondWaves late = nearTheEnd();
        check.same("late", late.count(0), 999998);
        late.tick(1);
        check.same("the last second", late.count(0), 999999);
        check.same("no second behind it", Check.thrownBy(() -> late.tick(1)).getName(), Check.RANGE.getName());
    }

    private static void refusals() {
        check.refusedOutside("tick", Check.RANGE, 1, 5000, TickTest::silence100, n -> x -> x.tick(n));
        check.refused("tick -1", Check.RANGE, TickTest::silence100, x -> x.tick(-1));
        check.refusedOutside("late tick", Check.RANGE, 1, 1, TickTest::nearTheEnd, n -> x -> x.tick(n));
        check.refused("longest tick, late", Check.RANGE, TickTest::nearTheEnd, x -> x.tick(5000));
        SecondWaves x = nearTheEnd();
        check.throwing("beyond the last second", Check.RANGE, () -> x.tick(2));
        check.same("the silence that it would have brought has not come", x.acted(1), 1);
        check.same("it comes with the second that is left", x.tick(1), 1);
    }

    private static SecondWaves silence100() {
        SecondWaves x = new SecondWaves();
        x.top(9);
        x.trigger(2, 100, 2, 0);
        x.begin();
        return x;
    }

    private static void atJustThatSecond() {
        SecondWaves x = silence100();
        check.same("99", x.tick(99), 0);
        check.same("100", x.tick(1), 1);
        check.same("once", x.tick(1), 0);
        check.same("once until the next row", x.tick(5000), 0);
        check.same("its step", x.incident(0, 0), 2);
        SecondWaves y = silence100();
        check.same("within a longer tick", y.tick(5000), 1);
        SecondWaves z = silence100();
        z.begin();
        z.tick(30);
        z.begin();
        check.same("two of three incidents", z.tick(70), 2);
        check.same("the third from its own begin", z.tick(29), 0);
        check.same("the third", z.tick(1), 1);
        check.same("acted at all of them", z.acted(0), 3);
    }

    private static void rowsStartSilencesAnew() {
        SecondWaves x = silence100();
        x.tick(99);
        x.tell(0);
        check.same("the row came in time", x.tick(99), 0);
        check.same("100 after the row", x.tick(1), 1);
        x.tell(0);
        check.same("a row in the second of the act", x.tick(99), 0);
        check.same("100 after that row", x.tick(1), 1);
        x.tick(150);
        x.tell(0);
        check.same("a late row", x.tick(100), 1);
        check.same("changed nothing, acted all the same", x.count(3), 2);
    }

    private static void onlyRowsBreakTheSilence() {
        SecondWaves x = silence100();
        x.trigger(3, 1, 5, 0);
        x.tick(50);
        x.word(0, 1);
        x.hurt(0, 1);
        x.ask(0, 1);
        x.calm(0, 1);
        check.same("a word, hurt, an ask and calm are no rows", x.incident(0, 3), 0);
        check.same("100 after begin", x.tick(50), 1);
    }

    private static void closedOnesAreLeftAlone() {
        SecondWaves x = silence100();
        x.begin();
        x.tick(99);
        x.close(0);
        check.same("only the open one", x.tick(1), 1);
        check.same("nothing acted there", x.incident(0, 4), 0);
        check.same("its step", x.incident(0, 0), 0);
    }

    private static void lateTriggers() {
        SecondWaves x = silence100();
        x.tick(50);
        x.trigger(2, 50, 3, 0);
        x.trigger(2, 51, 4, 0);
        check.same("its second has gone, the other's has not", x.tick(1), 1);
        check.same("step", x.incident(0, 0), 4);
        check.same("the one of 50 waits for a row", x.acted(1), 0);
        x.tell(0);
        check.same("both after the row", x.tick(51), 2);
    }

    private static void secondsBeforeNumbers() {
        SecondWaves x = new SecondWaves();
        x.top(9);
        x.begin();
        x.trigger(2, 30, 3, 0);
        x.trigger(2, 20, 4, 0);
        x.trigger(2, 10, 1, 0);
        x.trigger(2, 10, 2, 0);
        x.trigger(2, 20, 5, 0);
        check.same("all act", x.tick(100), 5);
        check.same("1, 2, 4, 5, and 3 is too low then", x.incident(0, 5), 4);
        check.same("without going up", x.count(3), 1);
        SecondWaves y = new SecondWaves();
        y.top(9);
        y.begin();
        y.trigger(2, 10, 2, 0);
        y.trigger(2, 10, 1, 0);
        y.tick(100);
        check.same("in one second by numbers", y.incident(0, 5), 1);
    }

    /** A tick of many seconds is nothing but as many ticks of one. */
    private static void oneTickOrMany() {
        for (int seed = 1; seed <= 300; seed++) {
            SecondWaves whole = silences(seed);
            SecondWaves parts = silences(seed);
            int seconds = 60;
            int acting = 0;
            for (int i = 0; i < seconds; i++) {
                acting += parts.tick(1);
            }
            check.same("seed " + seed, whole.tick(seconds), acting);
            check.same("seed " + seed, Check.seen(whole), Check.seen(parts));
        }
    }

    private static SecondWaves silences(int seed) {
        SecondWaves x = new SecondWaves();
        x.top(1 + seed % 9);
        int mixed = seed;
        for (int i = 0; i < 20; i++) {
            mixed = mixed * 1103515245 + 12345;
            x.trigger(2, 1 + (mixed >>> 16) % 50, (mixed >>> 8) % 10, (mixed >>> 4) % 30);
        }
        for (int i = 0; i < 3; i++) {
            x.begin();
            x.tick(1 + (seed + i) % 20);
            x.tell((seed + i) % (i + 1));
        }
        return x;
    }
}
