/** Promises 1, 2, 3: a new object, row, top. */
public final class ScaleTest {
    private static final Check check = new Check();

    public static void main(String[] args) {
        newObject();
        rows();
        rowsAboveTheTop();
        rowRefusals();
        theTop();
        topRefusals();
        check.end();
    }

    private static void newObject() {
        check.same("a new object", Check.seen(new SecondWaves()), "0 0 0 0 ");
        check.refused("incident of none", Check.UNKNOWN, SecondWaves::new, x -> x.incident(0, 0));
        check.refused("unit of none", Check.UNKNOWN, SecondWaves::new, x -> x.unitAt(0, 0));
        check.refused("trigger of none", Check.UNKNOWN, SecondWaves::new, x -> x.acted(0));
        SecondWaves x = new SecondWaves();
        check.same("first trigger", x.trigger(0, 0, 9, 0), 0);
        check.same("first incident", x.begin(), 0);
        check.same("first unit", x.unit(0), 0);
        x.word(0, 0);
        check.same("the first top is 0", x.incident(0, 0), 0);
        for (int skill = 0; skill < 8; skill++) {
            check.same("the first row of step 0", x.needed(0, skill), 0);
        }
    }

    /** One incident, and ask 0 .. 9 leads to step 0 .. 9. */
    private static SecondWaves stairs() {
        SecondWaves x = new SecondWaves();
        for (int step = 0; step < 10; step++) {
            x.trigger(3, step, step, 0);
        }
        x.begin();
        return x;
    }

    private static void rows() {
        SecondWaves x = stairs();
        x.top(9);
        for (int step = 0; step < 10; step++) {
            for (int skill = 0; skill < 8; skill++) {
                x.row(step, skill, (step * 11 + skill * 5) % 31);
            }
        }
        for (int step = 0; step < 10; step++) {
            x.ask(0, step);
            for (int skill = 0; skill < 8; skill++) {
                check.same("row " + step + " skill " + skill, x.needed(0, skill), (step * 11 + skill * 5) % 31);
            }
        }
        x.row(9, 7, 30);
        check.same("the most", x.needed(0, 7), 30);
        x.row(9, 7, 0);
        check.same("the least, told anew", x.needed(0, 7), 0);
    }

    /** A step above the top has a row, too: it is seen when the top is. */
    private static void rowsAboveTheTop() {
        SecondWaves x = stairs();
        x.row(9, 7, 30);
        x.top(9);
        x.ask(0, 9);
        check.same("a row told while the top was 0", x.needed(0, 7), 30);
    }

    private static SecondWaves oneRow() {
        SecondWaves x = stairs();
        x.row(0, 0, 4);
        x.row(0, 7, 5);
        return x;
    }

    private static void rowRefusals() {
        check.refusedOutside("step", Check.UNKNOWN, 0, 9, ScaleTest::oneRow, n -> x -> x.row(n, 0, 1));
        check.refusedOutside("skill", Check.UNKNOWN, 0, 7, ScaleTest::oneRow, n -> x -> x.row(0, n, 1));
        check.refusedOutside("count", Check.RANGE, 0, 30, ScaleTest::oneRow, n -> x -> x.row(0, 0, n));
        check.refusedOutside("count of the last", Check.RANGE, 0, 30, ScaleTest::oneRow, n -> x -> x.row(9, 7, n));
        check.refused("unknown step before count", Check.UNKNOWN, ScaleTest::oneRow, x -> x.row(10, 0, 31));
        check.refused("unknown skill before count", Check.UNKNOWN, ScaleTest::oneRow, x -> x.row(0, 8, -1));
    }

    private static void theTop() {
        SecondWaves x = stairs();
        x.top(3);
        x.ask(0, 9);
        check.same("a step above the top becomes the top", x.incident(0, 0), 3);
        x.top(5);
        check.same("a higher top lifts nobody", x.incident(0, 0), 3);
        x.ask(0, 4);
        check.same("a step below the top", x.incident(0, 0), 4);
        x.ask(0, 5);
        check.same("the top itself", x.incident(0, 0), 5);
        x.top(5);
        x.top(9);
        x.ask(0, 9);
        check.same("the greatest top", x.incident(0, 0), 9);
        x.close(0);
        x.top(0);
        check.same("a closed incident above the top stays", x.incident(0, 0), 9);
        x.begin();
        x.ask(1, 9);
        check.same("top 0 leaves all on step 0", x.incident(1, 0), 0);
        check.same("acted all the same", x.incident(1, 4), 1);
    }

    private static SecondWaves onStepThree() {
        SecondWaves x = stairs();
        x.begin();
        x.top(7);
        x.ask(1, 3);
        return x;
    }

    private static SecondWaves twelveWithOneAbove(int above) {
        SecondWaves x = stairs();
        for (int i = 1; i < 12; i++) {
            x.begin();
        }
        x.top(1);
        x.ask(above, 1);
        return x;
    }

    private static SecondWaves lastOfTwelveAbove() {
        return twelveWithOneAbove(11);
    }

    private static SecondWaves firstOfTwelveAbove() {
        return twelveWithOneAbove(0);
    }

    private static void topRefusals() {
        check.refusedOutside("no such step, before the one above", Check.UNKNOWN, 0, 9, ScaleTest::onStepThree,
                n -> x -> x.top(n));
        check.refusedOutside("no such step", Check.UNKNOWN, 0, 9, SecondWaves::new, n -> x -> x.top(n));
        check.refused("an incident one above", Check.STATE, ScaleTest::onStepThree, x -> x.top(2));
        check.refused("an incident far above", Check.STATE, ScaleTest::onStepThree, x -> x.top(0));
        check.refused("the last of twelve alone above", Check.STATE, ScaleTest::lastOfTwelveAbove, x -> x.top(0));
        check.refused("the first of twelve alone above", Check.STATE, ScaleTest::firstOfTwelveAbove, x -> x.top(0));
        SecondWaves x = onStepThree();
        Check.thrownBy(() -> x.top(2));
        Check.thrownBy(() -> x.top(10));
        x.ask(0, 9);
        check.same("a refused top is no top", x.incident(0, 0), 7);
        x.calm(0, 0);
        x.top(3);
        x.calm(1, 2);
        x.top(2);
        x.ask(0, 9);
        check.same("no incident is above any more", x.incident(0, 0), 2);
        SecondWaves y = lastOfTwelveAbove();
        y.close(11);
        y.top(0);
        y.ask(10, 9);
        check.same("a closed one above does not hinder", y.incident(10, 0), 0);
    }
}
