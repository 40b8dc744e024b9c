/** Promises 4 and 19: trigger with kinds, ranges, room and spans; acted. */
public final class TriggerTest {
    private static final Check check = new Check();

    public static void main(String[] args) {
        numbersAndRoom();
        ranges();
        otherKindsRanges();
        stepsAboveTheTop();
        orderOfRefusals();
        spans();
        spanOfSilence();
        spanOfHurt();
        byNumbers();
        actedAtAll();
        check.end();
    }

    private static SecondWaves twoIncidents() {
        SecondWaves x = new SecondWaves();
        x.top(9);
        x.begin();
        x.begin();
        return x;
    }

    private static SecondWaves fullOfTriggers() {
        SecondWaves x = twoIncidents();
        for (int i = 0; i < 20; i++) {
            check.same("trigger number", x.trigger(i % 4, 5, 1, 0), i);
        }
        return x;
    }

    private static void numbersAndRoom() {
        SecondWaves x = fullOfTriggers();
        check.same("the last trigger", x.acted(19), 0);
        check.same("five of the kind act", x.ask(0, 5), 5);
        check.refused("trigger 20", Check.ROOM, TriggerTest::fullOfTriggers, y -> y.trigger(0, 5, 1, 0));
        check.refused("silence 20", Check.ROOM, TriggerTest::fullOfTriggers, y -> y.trigger(2, 5, 1, 0));
    }

    private static void ranges() {
        int[] least = {0, 1, 1, 0};
        int[] greatest = {99, 1000, 100000, 9};
        for (int i = 0; i < 4; i++) {
            int kind = i;
            int low = least[i];
            int high = greatest[i];
            SecondWaves x = twoIncidents();
            check.same("least what of kind " + kind, x.trigger(kind, low, 0, 0), 0);
            check.same("greatest what of kind " + kind, x.trigger(kind, high, 9, 100000), 1);
            check.refusedOutside("what of kind " + kind, Check.RANGE, low, high, TriggerTest::twoIncidents,
                    n -> y -> y.trigger(kind, n, 0, 0));
            check.refusedOutside("span of kind " + kind, Check.RANGE, 0, 100000, TriggerTest::twoIncidents,
                    n -> y -> y.trigger(kind, low, 0, n));
            check.refusedOutside("step of kind " + kind, Check.UNKNOWN, 0, 9, TriggerTest::twoIncidents,
                    n -> y -> y.trigger(kind, low, n, 0));
        }
        check.refusedOutside("kind", Check.UNKNOWN, 0, 3, TriggerTest::twoIncidents, n -> x -> x.trigger(n, 1, 0, 0));
    }

    /** The ranges of one kind are not those of another. */
    private static void otherKindsRanges() {
        SecondWaves x = twoIncidents();
        check.same("word 10 is no ask", x.trigger(0, 10, 0, 0), 0);
        check.same("100 hurt are no word", x.trigger(1, 100, 0, 0), 1);
        check.same("1,001 seconds are no hurt", x.trigger(2, 1001, 0, 0), 2);
        check.same("ask 0 is no second", x.trigger(3, 0, 0, 0), 3);
        check.refused("ask 10", Check.RANGE, TriggerTest::twoIncidents, y -> y.trigger(3, 10, 0, 0));
        check.refused("word 100", Check.RANGE, TriggerTest::twoIncidents, y -> y.trigger(0, 100, 0, 0));
        check.refused("1,001 hurt", Check.RANGE, TriggerTest::twoIncidents, y -> y.trigger(1, 1001, 0, 0));
        check.refused("no hurt", Check.RANGE, TriggerTest::twoIncidents, y -> y.trigger(1, 0, 0, 0));
        check.refused("no second", Check.RANGE, TriggerTest::twoIncidents, y -> y.trigger(2, 0, 0, 0));
    }

    /** A trigger may go to a step above the top: the top counts when it acts, not when it is made. */
    private static void stepsAboveTheTop() {
        SecondWaves x = new SecondWaves();
        x.trigger(0, 1, 9, 0);
        x.begin();
        x.word(0, 1);
        check.same("top 0", x.incident(0, 0), 0);
        x.top(4);
        x.word(0, 1);
        check.same("top 4", x.incident(0, 0), 4);
        x.top(9);
        check.same("a new top alone lifts nobody", x.incident(0, 0), 4);
        x.word(0, 1);
        check.same("top 9", x.incident(0, 0), 9);
    }

    private static void orderOfRefusals() {
        check.refused("step before what", Check.UNKNOWN, TriggerTest::twoIncidents, x -> x.trigger(0, 100, 10, 0));
        check.refused("kind before span", Check.UNKNOWN, TriggerTest::twoIncidents, x -> x.trigger(4, 1, 0, -1));
        check.refused("step before room", Check.UNKNOWN, TriggerTest::fullOfTriggers, x -> x.trigger(0, 1, 10, 0));
        check.refused("what before room", Check.RANGE, TriggerTest::fullOfTriggers, x -> x.trigger(3, 10, 1, 0));
        check.refused("span before room", Check.RANGE, TriggerTest::fullOfTriggers, x -> x.trigger(3, 1, 1, -1));
    }

    private static void spans() {
        SecondWaves x = twoIncidents();
        x.trigger(0, 7, 1, 60);
        x.trigger(3, 7, 2, 0);
        check.same("the first time", x.word(0, 7), 1);
        check.same("at once again", x.word(0, 7), 0);
        x.tick(59);
        check.same("a second too soon", x.word(0, 7), 0);
        check.same("another incident by itself", x.word(1, 7), 1);
        x.tick(1);
        check.same("just the span", x.word(0, 7), 1);
        check.same("the other's span runs yet", x.word(1, 7), 0);
        x.tick(59);
        check.same("the span counts from the last act", x.word(0, 7), 0);
        check.same("the other's is over", x.word(1, 7), 1);
        check.same("span 0", x.ask(0, 7), 1);
        check.same("span 0 in the same second", x.ask(0, 7), 1);
        check.same("acted", x.acted(0), 4);
        check.same("acted", x.acted(1), 2);
        check.same("what a span stopped is nowhere counted", x.incident(0, 4), 4);
    }

    private static void spanOfSilence() {
        SecondWaves x = twoIncidents();
        x.close(1);
        x.trigger(2, 10, 1, 25);
        check.same("silence at 10", x.tick(10), 1);
        x.tell(0);
        check.same("at 20 the span runs", x.tick(10), 0);
        check.same("and that second does not come again", x.tick(30), 0);
        x.tell(0);
        check.same("silence at 60", x.tick(11), 1);
        x.tick(4);
        x.tell(0);
        check.same("at 75 the span since 60 runs", x.tick(20), 0);
        x.tell(0);
        check.same("at 95", x.tick(5), 0);
        check.same("just 10 after the row", x.tick(5), 1);
        check.same("acted", x.acted(0), 3);
    }

    private static void spanOfHurt() {
        SecondWaves x = twoIncidents();
        x.trigger(1, 5, 1, 10);
        check.same("reached", x.hurt(0, 5), 1);
        x.hurt(0, 0);
        check.same("reached while the span runs", x.hurt(0, 8), 0);
        x.tick(10);
        check.same("not from below", x.hurt(0, 9), 0);
        x.hurt(0, 4);
        check.same("from below", x.hurt(0, 5), 1);
    }

    private static void byNumbers() {
        SecondWaves x = twoIncidents();
        x.trigger(0, 1, 2, 0);
        x.trigger(0, 1, 1, 0);
        x.trigger(0, 1, 4, 0);
        x.trigger(0, 1, 4, 0);
        check.same("all act", x.word(0, 1), 4);
        check.same("the step", x.incident(0, 0), 4);
        check.same("up by the first and the third", x.incident(0, 5), 2);
        check.same("acted there", x.incident(0, 4), 4);
        check.same("without going up", x.count(3), 2);
    }

    private static SecondWaves oneTrigger() {
        SecondWaves x = twoIncidents();
        x.trigger(0, 1, 1, 0);
        return x;
    }

    private static void actedAtAll() {
        SecondWaves x = twoIncidents();
        x.trigger(3, 1, 3, 0);
        x.trigger(3, 2, 1, 0);
        x.ask(0, 1);
        x.ask(1, 1);
        x.ask(1, 1);
        x.ask(1, 2);
        x.close(1);
        check.same("at all incidents, open or not", x.acted(0), 3);
        check.same("one that changed nothing acted all the same", x.acted(1), 1);
        check.refusedOutside("of twenty", Check.UNKNOWN, 0, 19, TriggerTest::fullOfTriggers, n -> y -> y.acted(n));
        check.refusedOutside("of one", Check.UNKNOWN, 0, 0, TriggerTest::oneTrigger, n -> y -> y.acted(n));
        check.refused("trigger 0 of none", Check.UNKNOWN, TriggerTest::twoIncidents, y -> y.acted(0));
    }
}
